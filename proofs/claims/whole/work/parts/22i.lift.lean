section L_bound
variable {p : Program} {l : Launch} {e : Env} {s : State} {m : MethodId} {args : Array Value} {below : List Frame} {meth : Method} {c : Code} {D : va_G} {A : Nat → Prop} {k : Nat → ClassId} {g : Nat → Nat} {N : Nat} {cd : Cond}
set_option maxHeartbeats 4000000 in
set_option maxRecDepth 100000 in
theorem rc_bound (l : Launch) (D : va_G) (k : Nat → ClassId) (g : Nat → Nat) (N : Nat) (σ : St) (x1 : Int) (x2 : Int) (r : St × Int) (hm : r_bound N σ x1 x2 = some r) : Mi l yX12_bound (.code yX12_bound cX12_bound 4 (some .int) :: rW) { frames := 1, cells := 0, slots := 0, locals := 21 } [.ref (g 0), .int (Int32.ofInt x1), .int (Int32.ofInt x2)] D (TYs k) (mW k g σ) (fun _ => True) Unit (fun v _ => v = Int32.ofInt r.2) (fun _ => mW k g r.1) 0 0 := by
  intro sz
  refine x_met (cc := cX12_bound) (maxL := 4) (ret := (some .int)) (by decide) rfl (Nat.le_of_ble_eq_true rfl) ?_
  intro p e s m below meth c ls C hX hsz hr hlk hmn hl h
  have hl : lv_has ls 4 [(0, .ref (g 0)), (1, .int (Int32.ofInt x1)), (2, .int (Int32.ofInt x2))] := hl
  rw [r_bound] at hm
  refine lv_aload_n C.1 C.2.1 dX12_bound_0 rfl (lv_at hl 0 rfl) ?_
  refine lv_iload_n C.1 C.2.1 dX12_bound_1 rfl (lv_at hl 1 rfl) ?_
  obtain ⟨r1, e2, hm⟩ := obd_s hm
  refine q_callVi C h (rc_isTrack l D k g N σ x1 r1 e2) (cwV 1 C.2.2.1 (gR_isTrack _) rfl rfl rfl hd_isTrack ⟨Nat.le_of_ble_eq_true rfl, Nat.le_of_ble_eq_true rfl⟩) rfl hl.1 rfl (Nat.le_of_ble_eq_true rfl) dX12_bound_2 ⟨Nat.le_of_ble_eq_true rfl, Nat.le_of_ble_eq_true rfl⟩ (fun H locs h => ?_)
  obtain ⟨g3, hm⟩ := grd_s hm
  refine z_if_ne (tgt := 10) C dX12_bound_5 (by decide) g3 (fun c4 => ?_) (fun c4 => ?_)
  · have hm := ite_f c4 hm
    refine lv_aload_n C.1 C.2.1 dX12_bound_10 rfl (lv_at hl 0 rfl) ?_
    refine fg_111 C h dX12_bound_11 ?_
    refine lv_iload_n C.1 C.2.1 dX12_bound_14 rfl (lv_at hl 1 rfl) ?_
    obtain ⟨g5, hm⟩ := grd_s hm
    refine al_28 C h dX12_bound_15 g5 ?_
    obtain ⟨v6, e7, hm⟩ := bnd_s hm
    rw [e7]
    refine lv_istore_n (lv' := [(3, .int (Int32.ofInt v6)), (0, .ref (g 0)), (1, .int (Int32.ofInt x1)), (2, .int (Int32.ofInt x2))]) C.1 C.2.1 dX12_bound_16 rfl hl (by decide) rfl (fun ls hl => ?_)
    refine lv_iload_n C.1 C.2.1 dX12_bound_17 rfl (lv_at hl 0 rfl) ?_
    refine lv_iconst (v := Int32.ofInt (-1)) C.1 C.2.1 dX12_bound_18 (by decide) ?_
    obtain ⟨g8, hm⟩ := grd_s hm
    refine z_icmp_ne (tgt := 24) C dX12_bound_19 (by decide) g8 (by decide) (fun c9 => ?_) (fun c9 => ?_)
    · have hm := ite_f c9 hm
      refine lv_iload_n C.1 C.2.1 dX12_bound_24 rfl (lv_at hl 3 rfl) ?_
      obtain ⟨g10, hm⟩ := grd_s hm
      by_cases c11 : x2 = 0
      · refine x_topi (congrArg Int32.ofInt c11) ?_
        have hm := ite_t c11 hm
        refine lv_tableIn (tgt := 60) C.1 C.2.1 dX12_bound_25 (by decide) (by decide) rfl (by decide) ?_
        refine lv_aload_n C.1 C.2.1 dX12_bound_60 rfl (lv_at hl 1 rfl) ?_
        refine fg_56 C h dX12_bound_61 ?_
        refine lv_iload_n C.1 C.2.1 dX12_bound_64 rfl (lv_at hl 0 rfl) ?_
        obtain ⟨g12, hm⟩ := grd_s hm
        refine al_63 C h dX12_bound_65 g12 ?_
        cases hm
        exact q_iret C h hr hlk dX12_bound_66 rfl
      have hm := ite_f c11 hm
      by_cases c13 : x2 = 1
      · refine x_topi (congrArg Int32.ofInt c13) ?_
        have hm := ite_t c13 hm
        refine lv_tableIn (tgt := 67) C.1 C.2.1 dX12_bound_25 (by decide) (by decide) rfl (by decide) ?_
        refine lv_aload_n C.1 C.2.1 dX12_bound_67 rfl (lv_at hl 1 rfl) ?_
        refine fg_57 C h dX12_bound_68 ?_
        refine lv_iload_n C.1 C.2.1 dX12_bound_71 rfl (lv_at hl 0 rfl) ?_
        obtain ⟨g14, hm⟩ := grd_s hm
        refine al_62 C h dX12_bound_72 g14 ?_
        cases hm
        exact q_iret C h hr hlk dX12_bound_73 rfl
      have hm := ite_f c13 hm
      by_cases c15 : x2 = 2
      · refine x_topi (congrArg Int32.ofInt c15) ?_
        have hm := ite_t c15 hm
        refine lv_tableIn (tgt := 74) C.1 C.2.1 dX12_bound_25 (by decide) (by decide) rfl (by decide) ?_
        refine lv_aload_n C.1 C.2.1 dX12_bound_74 rfl (lv_at hl 1 rfl) ?_
        refine fg_58 C h dX12_bound_75 ?_
        refine lv_iload_n C.1 C.2.1 dX12_bound_78 rfl (lv_at hl 0 rfl) ?_
        obtain ⟨g16, hm⟩ := grd_s hm
        refine al_61 C h dX12_bound_79 g16 ?_
        cases hm
        exact q_iret C h hr hlk dX12_bound_80 rfl
      have hm := ite_f c15 hm
      by_cases c17 : x2 = 3
      · refine x_topi (congrArg Int32.ofInt c17) ?_
        have hm := ite_t c17 hm
        refine lv_tableIn (tgt := 81) C.1 C.2.1 dX12_bound_25 (by decide) (by decide) rfl (by decide) ?_
        refine lv_aload_n C.1 C.2.1 dX12_bound_81 rfl (lv_at hl 1 rfl) ?_
        refine fg_59 C h dX12_bound_82 ?_
        refine lv_iload_n C.1 C.2.1 dX12_bound_85 rfl (lv_at hl 0 rfl) ?_
        obtain ⟨g18, hm⟩ := grd_s hm
        refine al_60 C h dX12_bound_86 g18 ?_
        cases hm
        exact q_iret C h hr hlk dX12_bound_87 rfl
      have hm := ite_f c17 hm
      by_cases c19 : x2 = 4
      · refine x_topi (congrArg Int32.ofInt c19) ?_
        have hm := ite_t c19 hm
        refine lv_tableIn (tgt := 88) C.1 C.2.1 dX12_bound_25 (by decide) (by decide) rfl (by decide) ?_
        refine lv_aload_n C.1 C.2.1 dX12_bound_88 rfl (lv_at hl 1 rfl) ?_
        refine fg_60 C h dX12_bound_89 ?_
        refine lv_iload_n C.1 C.2.1 dX12_bound_92 rfl (lv_at hl 0 rfl) ?_
        obtain ⟨g20, hm⟩ := grd_s hm
        refine al_59 C h dX12_bound_93 g20 ?_
        cases hm
        exact q_iret C h hr hlk dX12_bound_94 rfl
      have hm := ite_f c19 hm
      refine lv_tableOut (tgt := 95) C.1 C.2.1 dX12_bound_25 (by rw [c32_ti g10]; omega) (by decide) ?_
      refine lv_iconst (v := Int32.ofInt (-1)) C.1 C.2.1 dX12_bound_95 (by decide) ?_
      cases hm
      exact q_iret C h hr hlk dX12_bound_96 rfl
    · have hm := ite_t c9 hm
      refine lv_iconst (v := Int32.ofInt (-1)) C.1 C.2.1 dX12_bound_22 (by decide) ?_
      cases hm
      exact q_iret C h hr hlk dX12_bound_23 rfl
  · have hm := ite_t c4 hm
    refine lv_iconst (v := Int32.ofInt (-1)) C.1 C.2.1 dX12_bound_8 (by decide) ?_
    cases hm
    exact q_iret C h hr hlk dX12_bound_9 rfl
end L_bound
section L_ask
variable {p : Program} {l : Launch} {e : Env} {s : State} {m : MethodId} {args : Array Value} {below : List Frame} {meth : Method} {c : Code} {D : va_G} {A : Nat → Prop} {k : Nat → ClassId} {g : Nat → Nat} {N : Nat} {cd : Cond}
set_option maxHeartbeats 4000000 in
set_option maxRecDepth 100000 in
theorem lm_ask_66 {r : St × Int} (C : Cx p s m args c cX12_ask RX12 (cd :: rW) D (TYs k) 5) (hr : meth.sig.returnType = (some .int)) (hlk : meth.locks = false)  (n : Nat) : ∀ {ls : Array Slot} {H : Heap} {locs : List Loc} {σ : St} {x2 : Int} {x4 : Int}, lv_has ls 5 [(0, .ref (g 0)), (2, .int (Int32.ofInt x2)), (4, .int (Int32.ofInt x4))] → Hp D A s.heap H locs (mW k g σ) → r_ask_66 N  n σ x2 x4 = some r → W p l e { frames := 6, cells := 0, slots := 0, locals := 153 } s m args below meth c H locs 0 0 (MQ below (va_Qi (fun v (_ : Unit) => v = Int32.ofInt r.2) (fun _ t => PostW D (TYs k) A (mW k g r.1) t) A) args s 0 0 A) (F0 m 66 ls []) := by
  induction n with
  | zero => intro ls H locs σ x2 x4 hl h hm; cases (show none = some r from hm)
  | succ n hrec66 =>
    intro ls H locs σ x2 x4 hl h hm
    rw [r_ask_66] at hm
    refine lv_iload C.1 C.2.1 dX12_ask_66 (lv_at hl 2 rfl) ?_
    refine lv_aload_n C.1 C.2.1 dX12_ask_68 rfl (lv_at hl 0 rfl) ?_
    refine fg_121 C h dX12_ask_69 ?_
    obtain ⟨g16, hm⟩ := grd_s hm
    obtain ⟨g17, hm⟩ := grd_s hm
    refine z_icmp_ge (tgt := 182) C dX12_ask_72 (by decide) g16 g17 (fun c18 => ?_) (fun c18 => ?_)
    · have hm := ite_f c18 hm
      refine lv_aload_n C.1 C.2.1 dX12_ask_182 rfl (lv_at hl 0 rfl) ?_
      refine fg_121 C h dX12_ask_183 ?_
      cases hm
      exact q_iret C h hr hlk dX12_ask_186 rfl
    · have hm := ite_t c18 hm
      refine lv_aload_n C.1 C.2.1 dX12_ask_75 rfl (lv_at hl 0 rfl) ?_
      refine fg_122 C h dX12_ask_76 ?_
      refine lv_iload C.1 C.2.1 dX12_ask_79 (lv_at hl 2 rfl) ?_
      refine lv_aload_n C.1 C.2.1 dX12_ask_81 rfl (lv_at hl 0 rfl) ?_
      refine fg_85 C h dX12_ask_82 ?_
      refine lv_iload C.1 C.2.1 dX12_ask_85 (lv_at hl 2 rfl) ?_
      obtain ⟨g19, hm⟩ := grd_s hm
      refine al_52 C h dX12_ask_87 g19 ?_
      refine lv_iload_n C.1 C.2.1 dX12_ask_88 rfl (lv_at hl 1 rfl) ?_
      obtain ⟨g20, hm⟩ := grd_s hm
      refine z_i2l C dX12_ask_89 g20 ?_
      refine lv_aload_n C.1 C.2.1 dX12_ask_90 rfl (lv_at hl 0 rfl) ?_
      refine fg_128 C h dX12_ask_91 ?_
      obtain ⟨g21, hm⟩ := grd_s hm
      refine z_i2l C dX12_ask_94 g21 ?_
      refine z_lmul C dX12_ask_95 ?_
      refine z_lsub C dX12_ask_96 ?_
      obtain ⟨g22, hm⟩ := grd_s hm
      refine as_24 C h dX12_ask_97 g22 (fun H locs h => ?_)
      refine lv_aload_n C.1 C.2.1 dX12_ask_98 rfl (lv_at hl 0 rfl) ?_
      refine fg_123 C h dX12_ask_99 ?_
      refine lv_iload C.1 C.2.1 dX12_ask_102 (lv_at hl 2 rfl) ?_
      refine lv_aload_n C.1 C.2.1 dX12_ask_104 rfl (lv_at hl 0 rfl) ?_
      refine fg_86 C h dX12_ask_105 ?_
      refine lv_iload C.1 C.2.1 dX12_ask_108 (lv_at hl 2 rfl) ?_
      refine al_51 C h dX12_ask_110 g19 ?_
      refine x_topl (y := Int64.ofInt (el σ 51 x4)) rfl ?_
      refine lv_aload_n C.1 C.2.1 dX12_ask_111 rfl (lv_at hl 0 rfl) ?_
      refine fg_85 C h dX12_ask_112 ?_
      refine lv_iload C.1 C.2.1 dX12_ask_115 (lv_at hl 2 rfl) ?_
      refine al_52 C h dX12_ask_117 g19 ?_
      refine x_topl (y := Int64.ofInt (el σ 52 x4)) rfl ?_
      refine z_lsub C dX12_ask_118 ?_
      refine as_23 C h dX12_ask_119 g22 (fun H locs h => ?_)
      refine lv_aload_n C.1 C.2.1 dX12_ask_120 rfl (lv_at hl 0 rfl) ?_
      refine fg_124 C h dX12_ask_121 ?_
      refine lv_iload C.1 C.2.1 dX12_ask_124 (lv_at hl 2 rfl) ?_
      refine lv_aload_n C.1 C.2.1 dX12_ask_126 rfl (lv_at hl 0 rfl) ?_
      refine fg_87 C h dX12_ask_127 ?_
      refine lv_iload C.1 C.2.1 dX12_ask_130 (lv_at hl 2 rfl) ?_
      refine al_50 C h dX12_ask_132 g19 ?_
      refine x_topi (y := Int32.ofInt (el σ 50 x4)) rfl ?_
      refine as_22 C h dX12_ask_133 g22 (fun H locs h => ?_)
      refine lv_aload_n C.1 C.2.1 dX12_ask_134 rfl (lv_at hl 0 rfl) ?_
      refine fg_125 C h dX12_ask_135 ?_
      refine lv_iload C.1 C.2.1 dX12_ask_138 (lv_at hl 2 rfl) ?_
      refine lv_aload_n C.1 C.2.1 dX12_ask_140 rfl (lv_at hl 0 rfl) ?_
      refine fg_88 C h dX12_ask_141 ?_
      refine lv_iload C.1 C.2.1 dX12_ask_144 (lv_at hl 2 rfl) ?_
      refine al_49 C h dX12_ask_146 g19 ?_
      refine x_topi (y := Int32.ofInt (el σ 49 x4)) rfl ?_
      refine as_21 C h dX12_ask_147 g22 (fun H locs h => ?_)
      refine lv_aload_n C.1 C.2.1 dX12_ask_148 rfl (lv_at hl 0 rfl) ?_
      refine fg_126 C h dX12_ask_149 ?_
      refine lv_iload C.1 C.2.1 dX12_ask_152 (lv_at hl 2 rfl) ?_
      refine lv_aload_n C.1 C.2.1 dX12_ask_154 rfl (lv_at hl 0 rfl) ?_
      refine fg_89 C h dX12_ask_155 ?_
      refine lv_iload C.1 C.2.1 dX12_ask_158 (lv_at hl 2 rfl) ?_
      refine al_48 C h dX12_ask_160 g19 ?_
      refine x_topi (y := Int32.ofInt (el σ 48 x4)) rfl ?_
      refine as_20 C h dX12_ask_161 g22 (fun H locs h => ?_)
      refine lv_aload_n C.1 C.2.1 dX12_ask_162 rfl (lv_at hl 0 rfl) ?_
      refine fg_127 C h dX12_ask_163 ?_
      refine lv_iload C.1 C.2.1 dX12_ask_166 (lv_at hl 2 rfl) ?_
      refine lv_aload_n C.1 C.2.1 dX12_ask_168 rfl (lv_at hl 0 rfl) ?_
      refine fg_90 C h dX12_ask_169 ?_
      refine lv_iload C.1 C.2.1 dX12_ask_172 (lv_at hl 2 rfl) ?_
      refine al_47 C h dX12_ask_174 g19 ?_
      refine x_topi (y := Int32.ofInt (el σ 47 x4)) rfl ?_
      refine as_19 C h dX12_ask_175 g22 (fun H locs h => ?_)
      refine lv_iinc (v := Int32.ofInt (x4 + 1)) (lv' := [(4, .int (Int32.ofInt (x4 + 1))), (0, .ref (g 0)), (2, .int (Int32.ofInt x2))]) C.1 C.2.1 dX12_ask_176 hl (k := 2) rfl (c32_add _ _) (by decide) rfl (fun ls hl => ?_)
      refine lv_goto (tgt := 66) C.1 C.2.1 dX12_ask_179 (by decide) ?_
      exact hrec66 (lv_sub hl [1, 2, 0] rfl) h hm
set_option maxHeartbeats 4000000 in
set_option maxRecDepth 100000 in
theorem rc_ask (l : Launch) (D : va_G) (k : Nat → ClassId) (g : Nat → Nat) (N : Nat) (σ : St) (x1 : Int) (x2 : Int) (r : St × Int) (hm : r_ask N σ x1 x2 = some r) : Mi l yX12_ask (.code yX12_ask cX12_ask 5 (some .int) :: rW) { frames := 6, cells := 0, slots := 0, locals := 153 } [.ref (g 0), .int (Int32.ofInt x1), .int (Int32.ofInt x2)] D (TYs k) (mW k g σ) (fun _ => True) Unit (fun v _ => v = Int32.ofInt r.2) (fun _ => mW k g r.1) 0 0 := by
  intro sz
  refine x_met (cc := cX12_ask) (maxL := 5) (ret := (some .int)) (by decide) rfl (Nat.le_of_ble_eq_true rfl) ?_
  intro p e s m below meth c ls C hX hsz hr hlk hmn hl h
  have hl : lv_has ls 5 [(0, .ref (g 0)), (1, .int (Int32.ofInt x1)), (2, .int (Int32.ofInt x2))] := hl
  rw [r_ask] at hm
  refine lv_aload_n C.1 C.2.1 dX12_ask_0 rfl (lv_at hl 0 rfl) ?_
  refine lv_iload_n C.1 C.2.1 dX12_ask_1 rfl (lv_at hl 1 rfl) ?_
  obtain ⟨r1, e2, hm⟩ := obd_s hm
  refine q_callVi C h (rc_isTrack l D k g N σ x1 r1 e2) (cwV 1 C.2.2.1 (gR_isTrack _) rfl rfl rfl hd_isTrack ⟨Nat.le_of_ble_eq_true rfl, Nat.le_of_ble_eq_true rfl⟩) rfl hl.1 rfl (Nat.le_of_ble_eq_true rfl) dX12_ask_2 ⟨Nat.le_of_ble_eq_true rfl, Nat.le_of_ble_eq_true rfl⟩ (fun H locs h => ?_)
  obtain ⟨g3, hm⟩ := grd_s hm
  refine z_if_eq (tgt := 22) C dX12_ask_5 (by decide) g3 (fun c4 => ?_) (fun c4 => ?_)
  · have hm := ite_t c4 hm
    refine lv_iconst (v := Int32.ofInt (-1)) C.1 C.2.1 dX12_ask_22 (by decide) ?_
    cases hm
    exact q_iret C h hr hlk dX12_ask_23 rfl
  · have hm := ite_f c4 hm
    refine lv_iload_n C.1 C.2.1 dX12_ask_8 rfl (lv_at hl 2 rfl) ?_
    refine lv_sipush (v := Int32.ofInt (-1000)) C.1 C.2.1 dX12_ask_9 (by decide) ?_
    obtain ⟨g5, hm⟩ := grd_s hm
    refine z_icmp_lt (tgt := 22) C dX12_ask_12 (by decide) g5 (by decide) (fun c6 => ?_) (fun c6 => ?_)
    · have hm := ite_t c6 hm
      refine lv_iconst (v := Int32.ofInt (-1)) C.1 C.2.1 dX12_ask_22 (by decide) ?_
      cases hm
      exact q_iret C h hr hlk dX12_ask_23 rfl
    · have hm := ite_f c6 hm
      refine lv_iload_n C.1 C.2.1 dX12_ask_15 rfl (lv_at hl 2 rfl) ?_
      refine lv_ldcw (v := 100000) C.1 C.2.1 C.2.2.2.1 (C.2.2.1 _ (List.mem_cons_of_mem _ wk_852)) dX12_ask_16 ?_
      refine x_topi (y := Int32.ofInt 100000) (by decide) ?_
      refine z_icmp_le (tgt := 24) C dX12_ask_19 (by decide) g5 (by decide) (fun c7 => ?_) (fun c7 => ?_)
      · have hm := ite_f c7 hm
        refine lv_aload_n C.1 C.2.1 dX12_ask_24 rfl (lv_at hl 0 rfl) ?_
        refine fg_111 C h dX12_ask_25 ?_
        refine lv_iload_n C.1 C.2.1 dX12_ask_28 rfl (lv_at hl 1 rfl) ?_
        obtain ⟨g8, hm⟩ := grd_s hm
        refine al_28 C h dX12_ask_29 g8 ?_
        obtain ⟨v9, e10, hm⟩ := bnd_s hm
        rw [e10]
        refine lv_istore_n (lv' := [(3, .int (Int32.ofInt v9)), (0, .ref (g 0)), (1, .int (Int32.ofInt x1)), (2, .int (Int32.ofInt x2))]) C.1 C.2.1 dX12_ask_30 rfl hl (by decide) rfl (fun ls hl => ?_)
        refine lv_iload_n C.1 C.2.1 dX12_ask_31 rfl (lv_at hl 0 rfl) ?_
        refine lv_iconst (v := Int32.ofInt (-1)) C.1 C.2.1 dX12_ask_32 (by decide) ?_
        obtain ⟨g11, hm⟩ := grd_s hm
        refine z_icmp_ne (tgt := 38) C dX12_ask_33 (by decide) g11 (by decide) (fun c12 => ?_) (fun c12 => ?_)
        · have hm := ite_f c12 hm
          refine lv_aload_n C.1 C.2.1 dX12_ask_38 rfl (lv_at hl 1 rfl) ?_
          refine lv_iload_n C.1 C.2.1 dX12_ask_39 rfl (lv_at hl 0 rfl) ?_
          refine lv_iload_n C.1 C.2.1 dX12_ask_40 rfl (lv_at hl 3 rfl) ?_
          refine z_i2l C dX12_ask_41 g5 ?_
          obtain ⟨r13, e14, hm⟩ := obd_s hm
          refine q_callVv C h (rc_rowOf l D k g N r1.1 v9 x2 r13 e14) (cwV 2 C.2.2.1 (gR_rowOf _) rfl rfl rfl hd_rowOf ⟨Nat.le_of_ble_eq_true rfl, Nat.le_of_ble_eq_true rfl⟩) rfl hl.1 rfl (Nat.le_of_ble_eq_true rfl) dX12_ask_42 ⟨Nat.le_of_ble_eq_true rfl, Nat.le_of_ble_eq_true rfl⟩ (fun H locs h => ?_)
          refine lv_aload_n C.1 C.2.1 dX12_ask_45 rfl (lv_at hl 1 rfl) ?_
          refine lv_aload_n C.1 C.2.1 dX12_ask_46 rfl (lv_at hl 1 rfl) ?_
          refine fg_84 C h dX12_ask_47 ?_
          refine fp_121 C h dX12_ask_50 (fun H locs h => ?_)
          refine lv_aload_n C.1 C.2.1 dX12_ask_53 rfl (lv_at hl 1 rfl) ?_
          refine lv_aload_n C.1 C.2.1 dX12_ask_54 rfl (lv_at hl 1 rfl) ?_
          refine fg_56 C h dX12_ask_55 ?_
          refine lv_iload_n C.1 C.2.1 dX12_ask_58 rfl (lv_at hl 0 rfl) ?_
          obtain ⟨g15, hm⟩ := grd_s hm
          refine al_63 C h dX12_ask_59 g15 ?_
          refine x_topi (y := Int32.ofInt (el r13 63 v9)) rfl ?_
          refine fp_128 C h dX12_ask_60 (fun H locs h => ?_)
          refine lv_iconst (v := Int32.ofInt 0) C.1 C.2.1 dX12_ask_63 (by decide) ?_
          refine lv_istore (lv' := [(4, .int (Int32.ofInt 0)), (3, .int (Int32.ofInt v9)), (0, .ref (g 0)), (1, .int (Int32.ofInt x1)), (2, .int (Int32.ofInt x2))]) C.1 C.2.1 dX12_ask_64 hl (by decide) rfl (fun ls hl => ?_)
          exact lm_ask_66 (N := N) C hr hlk  N (lv_sub hl [2, 4, 0] rfl) h hm
        · have hm := ite_t c12 hm
          refine lv_iconst (v := Int32.ofInt (-1)) C.1 C.2.1 dX12_ask_36 (by decide) ?_
          cases hm
          exact q_iret C h hr hlk dX12_ask_37 rfl
      · have hm := ite_t c7 hm
        refine lv_iconst (v := Int32.ofInt (-1)) C.1 C.2.1 dX12_ask_22 (by decide) ?_
        cases hm
        exact q_iret C h hr hlk dX12_ask_23 rfl
end L_ask
section L_lowest
variable {p : Program} {l : Launch} {e : Env} {s : State} {m : MethodId} {args : Array Value} {below : List Frame} {meth : Method} {c : Code} {D : va_G} {A : Nat → Prop} {k : Nat → ClassId} {g : Nat → Nat} {N : Nat} {cd : Cond}
set_option maxHeartbeats 4000000 in
set_option maxRecDepth 100000 in
theorem lm_lowest_17 {r : Int} (C : Cx p s m args c cX12_lowest RX12 (cd :: rW) D (TYs k) 7) (hr : meth.sig.returnType = (some .int)) (hlk : meth.locks = false)  {ls : Array Slot} {H : Heap} {locs : List Loc} {x5 : Int} {s0 : Int} (hl : lv_has ls 7 [(5, .long (Int64.ofInt x5))]) (h : Hp D A s.heap H locs []) (hm : r_lowest_17 N  x5 s0 = some r) : W p l e { frames := 1, cells := 0, slots := 0, locals := 29 } s m args below meth c H locs 0 0 (MQ below (va_Qi (fun v (_ : Unit) => v = Int32.ofInt r) (fun _ t => PostW D (TYs k) A [] t) A) args s 0 0 A) (F0 m 17 ls [.long (Int64.ofInt s0)]) := by
  rw [r_lowest_17] at hm
  refine lv_lload C.1 C.2.1 dX12_lowest_17 (lv_at hl 0 rfl) ?_
  obtain ⟨g5, hm⟩ := grd_s hm
  obtain ⟨g6, hm⟩ := grd_s hm
  obtain ⟨g7, hm⟩ := grd_s hm
  refine z_ldiv C dX12_lowest_19 g5 g6 g7 ?_
  refine z_l2i C dX12_lowest_20 ?_
  cases hm
  exact q_iretS C h hr hlk dX12_lowest_21 rfl
set_option maxHeartbeats 4000000 in
set_option maxRecDepth 100000 in
theorem rc_lowest (l : Launch) (D : va_G) (k : Nat → ClassId) (N : Nat) (x0 : Int) (x2 : Int) (x4 : Int) (r : Int) (hm : r_lowest N x0 x2 x4 = some r) : Mi l yX12_lowest (.code yX12_lowest cX12_lowest 7 (some .int) :: rW) { frames := 1, cells := 0, slots := 0, locals := 29 } [.long (Int64.ofInt x0), .long (Int64.ofInt x2), .int (Int32.ofInt x4)] D (TYs k) [] (fun _ => True) Unit (fun v _ => v = Int32.ofInt r) (fun _ => []) 0 0 := by
  intro sz
  refine x_met (cc := cX12_lowest) (maxL := 7) (ret := (some .int)) (by decide) rfl (Nat.le_of_ble_eq_true rfl) ?_
  intro p e s m below meth c ls C hX hsz hr hlk hmn hl h
  have hl : lv_has ls 7 [(0, .long (Int64.ofInt x0)), (2, .long (Int64.ofInt x2)), (4, .int (Int32.ofInt x4))] := hl
  rw [r_lowest] at hm
  refine lv_lload_n C.1 C.2.1 dX12_lowest_0 rfl (lv_at hl 0 rfl) ?_
  refine lv_lload_n C.1 C.2.1 dX12_lowest_1 rfl (lv_at hl 1 rfl) ?_
  obtain ⟨r1, e2, hm⟩ := obd_s hm
  refine q_callSl C h (rc_commonOf l D k N x0 x2 r1 e2) (cwS 2 C.2.2.1 (gR_commonOf _) rfl rfl rfl hd_commonOf ⟨Nat.le_of_ble_eq_true rfl, Nat.le_of_ble_eq_true rfl⟩) rfl hl.1 rfl (Nat.le_of_ble_eq_true rfl) dX12_lowest_2 ⟨Nat.le_of_ble_eq_true rfl, Nat.le_of_ble_eq_true rfl⟩ (fun H locs h => ?_)
  refine lv_lstore (lv' := [(5, .long (Int64.ofInt r1)), (0, .long (Int64.ofInt x0)), (2, .long (Int64.ofInt x2)), (4, .int (Int32.ofInt x4))]) C.1 C.2.1 dX12_lowest_5 hl (by decide) rfl (fun ls hl => ?_)
  refine lv_iload C.1 C.2.1 dX12_lowest_7 (lv_at hl 3 rfl) ?_
  obtain ⟨g3, hm⟩ := grd_s hm
  refine z_if_eq (tgt := 16) C dX12_lowest_9 (by decide) g3 (fun c4 => ?_) (fun c4 => ?_)
  · have hm := ite_t c4 hm
    refine lv_lload_n C.1 C.2.1 dX12_lowest_16 rfl (lv_at hl 1 rfl) ?_
    exact lm_lowest_17 (N := N) C hr hlk  (lv_sub hl [0] rfl) h hm
  · have hm := ite_f c4 hm
    refine lv_lload_n C.1 C.2.1 dX12_lowest_12 rfl (lv_at hl 2 rfl) ?_
    refine lv_goto (tgt := 17) C.1 C.2.1 dX12_lowest_13 (by decide) ?_
    exact lm_lowest_17 (N := N) C hr hlk  (lv_sub hl [0] rfl) h hm
end L_lowest
section L_letters
variable {p : Program} {l : Launch} {e : Env} {s : State} {m : MethodId} {args : Array Value} {below : List Frame} {meth : Method} {c : Code} {D : va_G} {A : Nat → Prop} {k : Nat → ClassId} {g : Nat → Nat} {N : Nat} {cd : Cond}
set_option maxHeartbeats 4000000 in
set_option maxRecDepth 100000 in
theorem lm_letters_20 {r : Int} (C : Cx p s m args c cX12_letters RX12 (cd :: rW) D (TYs k) 4) (hr : meth.sig.returnType = (some .int)) (hlk : meth.locks = false)  (n : Nat) : ∀ {ls : Array Slot} {H : Heap} {locs : List Loc} {x2 : Int} {x3 : Int}, lv_has ls 4 [(2, .int (Int32.ofInt x2)), (3, .int (Int32.ofInt x3))] → Hp D A s.heap H locs [] → r_letters_20 N  n x2 x3 = some r → W p l e { frames := 0, cells := 0, slots := 0, locals := 0 } s m args below meth c H locs 0 0 (MQ below (va_Qi (fun v (_ : Unit) => v = Int32.ofInt r) (fun _ t => PostW D (TYs k) A [] t) A) args s 0 0 A) (F0 m 20 ls []) := by
  induction n with
  | zero => intro ls H locs x2 x3 hl h hm; cases (show none = some r from hm)
  | succ n hrec20 =>
    intro ls H locs x2 x3 hl h hm
    rw [r_letters_20] at hm
    refine lv_iload_n C.1 C.2.1 dX12_letters_20 rfl (lv_at hl 1 rfl) ?_
    obtain ⟨g5, hm⟩ := grd_s hm
    refine z_if_eq (tgt := 34) C dX12_letters_21 (by decide) g5 (fun c6 => ?_) (fun c6 => ?_)
    · have hm := ite_t c6 hm
      refine lv_iload_n C.1 C.2.1 dX12_letters_34 rfl (lv_at hl 0 rfl) ?_
      cases hm
      exact q_iretS C h hr hlk dX12_letters_35 rfl
    · have hm := ite_f c6 hm
      refine lv_iinc (v := Int32.ofInt (x2 + 1)) (lv' := [(2, .int (Int32.ofInt (x2 + 1))), (3, .int (Int32.ofInt x3))]) C.1 C.2.1 dX12_letters_24 hl (k := 0) rfl (c32_add _ _) (by decide) rfl (fun ls hl => ?_)
      refine lv_iload_n C.1 C.2.1 dX12_letters_27 rfl (lv_at hl 1 rfl) ?_
      refine lv_iconst (v := Int32.ofInt 5) C.1 C.2.1 dX12_letters_28 (by decide) ?_
      refine z_iushr C dX12_letters_29 ?_
      obtain ⟨v7, e8, hm⟩ := bnd_s hm
      rw [e8]
      refine lv_istore_n (lv' := [(3, .int (Int32.ofInt v7)), (2, .int (Int32.ofInt (x2 + 1)))]) C.1 C.2.1 dX12_letters_30 rfl hl (by decide) rfl (fun ls hl => ?_)
      refine lv_goto (tgt := 20) C.1 C.2.1 dX12_letters_31 (by decide) ?_
      exact hrec20 (lv_sub hl [1, 0] rfl) h hm
set_option maxHeartbeats 4000000 in
set_option maxRecDepth 100000 in
theorem lm_letters_4 {r : Int} (C : Cx p s m args c cX12_letters RX12 (cd :: rW) D (TYs k) 4) (hr : meth.sig.returnType = (some .int)) (hlk : meth.locks = false)  (n : Nat) : ∀ {ls : Array Slot} {H : Heap} {locs : List Loc} {x1 : Int} {x2 : Int} {x3 : Int}, lv_has ls 4 [(1, .int (Int32.ofInt x1)), (2, .int (Int32.ofInt x2)), (3, .int (Int32.ofInt x3))] → Hp D A s.heap H locs [] → r_letters_4 N  n x1 x2 x3 = some r → W p l e { frames := 0, cells := 0, slots := 0, locals := 0 } s m args below meth c H locs 0 0 (MQ below (va_Qi (fun v (_ : Unit) => v = Int32.ofInt r) (fun _ t => PostW D (TYs k) A [] t) A) args s 0 0 A) (F0 m 4 ls []) := by
  induction n with
  | zero => intro ls H locs x1 x2 x3 hl h hm; cases (show none = some r from hm)
  | succ n hrec4 =>
    intro ls H locs x1 x2 x3 hl h hm
    rw [r_letters_4] at hm
    refine lv_iload_n C.1 C.2.1 dX12_letters_4 rfl (lv_at hl 2 rfl) ?_
    obtain ⟨g1, hm⟩ := grd_s hm
    refine z_if_eq (tgt := 18) C dX12_letters_5 (by decide) g1 (fun c2 => ?_) (fun c2 => ?_)
    · have hm := ite_t c2 hm
      refine lv_iload_n C.1 C.2.1 dX12_letters_18 rfl (lv_at hl 0 rfl) ?_
      refine lv_istore_n (lv' := [(3, .int (Int32.ofInt x1)), (1, .int (Int32.ofInt x1)), (2, .int (Int32.ofInt x2))]) C.1 C.2.1 dX12_letters_19 rfl hl (by decide) rfl (fun ls hl => ?_)
      exact lm_letters_20 (N := N) C hr hlk  N (lv_sub hl [2, 0] rfl) h hm
    · have hm := ite_f c2 hm
      refine lv_iinc (v := Int32.ofInt (x2 + 1)) (lv' := [(2, .int (Int32.ofInt (x2 + 1))), (1, .int (Int32.ofInt x1)), (3, .int (Int32.ofInt x3))]) C.1 C.2.1 dX12_letters_8 hl (k := 1) rfl (c32_add _ _) (by decide) rfl (fun ls hl => ?_)
      refine lv_iload_n C.1 C.2.1 dX12_letters_11 rfl (lv_at hl 2 rfl) ?_
      refine lv_iconst (v := Int32.ofInt 5) C.1 C.2.1 dX12_letters_12 (by decide) ?_
      refine z_iushr C dX12_letters_13 ?_
      obtain ⟨v3, e4, hm⟩ := bnd_s hm
      rw [e4]
      refine lv_istore_n (lv' := [(3, .int (Int32.ofInt v3)), (2, .int (Int32.ofInt (x2 + 1))), (1, .int (Int32.ofInt x1))]) C.1 C.2.1 dX12_letters_14 rfl hl (by decide) rfl (fun ls hl => ?_)
      refine lv_goto (tgt := 4) C.1 C.2.1 dX12_letters_15 (by decide) ?_
      exact hrec4 (lv_sub hl [2, 1, 0] rfl) h hm
set_option maxHeartbeats 4000000 in
set_option maxRecDepth 100000 in
theorem rc_letters (l : Launch) (D : va_G) (k : Nat → ClassId) (N : Nat) (x0 : Int) (x1 : Int) (r : Int) (hm : r_letters N x0 x1 = some r) : Mi l yX12_letters (.code yX12_letters cX12_letters 4 (some .int) :: rW) { frames := 0, cells := 0, slots := 0, locals := 0 } [.int (Int32.ofInt x0), .int (Int32.ofInt x1)] D (TYs k) [] (fun _ => True) Unit (fun v _ => v = Int32.ofInt r) (fun _ => []) 0 0 := by
  intro sz
  refine x_met (cc := cX12_letters) (maxL := 4) (ret := (some .int)) (by decide) rfl (Nat.le_of_ble_eq_true rfl) ?_
  intro p e s m below meth c ls C hX hsz hr hlk hmn hl h
  have hl : lv_has ls 4 [(0, .int (Int32.ofInt x0)), (1, .int (Int32.ofInt x1))] := hl
  rw [r_letters] at hm
  refine lv_iconst (v := Int32.ofInt 0) C.1 C.2.1 dX12_letters_0 (by decide) ?_
  refine lv_istore_n (lv' := [(2, .int (Int32.ofInt 0)), (0, .int (Int32.ofInt x0)), (1, .int (Int32.ofInt x1))]) C.1 C.2.1 dX12_letters_1 rfl hl (by decide) rfl (fun ls hl => ?_)
  refine lv_iload_n C.1 C.2.1 dX12_letters_2 rfl (lv_at hl 1 rfl) ?_
  refine lv_istore_n (lv' := [(3, .int (Int32.ofInt x0)), (2, .int (Int32.ofInt 0)), (0, .int (Int32.ofInt x0)), (1, .int (Int32.ofInt x1))]) C.1 C.2.1 dX12_letters_3 rfl hl (by decide) rfl (fun ls hl => ?_)
  exact lm_letters_4 (N := N) C hr hlk  N (lv_sub hl [3, 1, 0] rfl) h hm
end L_letters
section L_letterAt
variable {p : Program} {l : Launch} {e : Env} {s : State} {m : MethodId} {args : Array Value} {below : List Frame} {meth : Method} {c : Code} {D : va_G} {A : Nat → Prop} {k : Nat → ClassId} {g : Nat → Nat} {N : Nat} {cd : Cond}
set_option maxHeartbeats 4000000 in
set_option maxRecDepth 100000 in
theorem lm_letterAt_57 {r : Int} (C : Cx p s m args c cX12_letterAt RX12 (cd :: rW) D (TYs k) 6) (hr : meth.sig.returnType = (some .int)) (hlk : meth.locks = false)  {ls : Array Slot} {H : Heap} {locs : List Loc} {s0 : Int} (hl : lv_has ls 6 []) (h : Hp D A s.heap H locs []) (hm : r_letterAt_57 N  s0 = some r) : W p l e { frames := 1, cells := 0, slots := 0, locals := 23 } s m args below meth c H locs 0 0 (MQ below (va_Qi (fun v (_ : Unit) => v = Int32.ofInt r) (fun _ t => PostW D (TYs k) A [] t) A) args s 0 0 A) (F0 m 57 ls [.int (Int32.ofInt s0)]) := by
  rw [r_letterAt_57] at hm
  refine lv_istore (lv' := [(5, .int (Int32.ofInt s0))]) C.1 C.2.1 dX12_letterAt_57 hl (by decide) rfl (fun ls hl => ?_)
  refine lv_bipush (v := Int32.ofInt 96) C.1 C.2.1 dX12_letterAt_59 (by decide) ?_
  refine lv_iload C.1 C.2.1 dX12_letterAt_61 (lv_at hl 0 rfl) ?_
  refine lv_bipush (v := Int32.ofInt 31) C.1 C.2.1 dX12_letterAt_63 (by decide) ?_
  refine z_iand C dX12_letterAt_65 ?_
  refine z_iadd C dX12_letterAt_66 ?_
  cases hm
  exact q_iretS C h hr hlk dX12_letterAt_67 rfl
set_option maxHeartbeats 4000000 in
set_option maxRecDepth 100000 in
theorem lm_letterAt_27 {r : Int} (C : Cx p s m args c cX12_letterAt RX12 (cd :: rW) D (TYs k) 6) (hr : meth.sig.returnType = (some .int)) (hlk : meth.locks = false)  {ls : Array Slot} {H : Heap} {locs : List Loc} {x0 : Int} {x1 : Int} {x2 : Int} {x3 : Int} {s0 : Int} (hl : lv_has ls 6 [(0, .int (Int32.ofInt x0)), (1, .int (Int32.ofInt x1)), (2, .int (Int32.ofInt x2)), (3, .int (Int32.ofInt x3))]) (h : Hp D A s.heap H locs []) (hm : r_letterAt_27 N  x0 x1 x2 x3 s0 = some r) : W p l e { frames := 1, cells := 0, slots := 0, locals := 23 } s m args below meth c H locs 0 0 (MQ below (va_Qi (fun v (_ : Unit) => v = Int32.ofInt r) (fun _ t => PostW D (TYs k) A [] t) A) args s 0 0 A) (F0 m 27 ls [.int (Int32.ofInt s0)]) := by
  rw [r_letterAt_27] at hm
  refine lv_istore (lv' := [(4, .int (Int32.ofInt s0)), (0, .int (Int32.ofInt x0)), (1, .int (Int32.ofInt x1)), (2, .int (Int32.ofInt x2)), (3, .int (Int32.ofInt x3))]) C.1 C.2.1 dX12_letterAt_27 hl (by decide) rfl (fun ls hl => ?_)
  refine lv_iload_n C.1 C.2.1 dX12_letterAt_29 rfl (lv_at hl 3 rfl) ?_
  refine lv_iload C.1 C.2.1 dX12_letterAt_30 (lv_at hl 0 rfl) ?_
  obtain ⟨g8, hm⟩ := grd_s hm
  obtain ⟨g9, hm⟩ := grd_s hm
  refine z_icmp_ge (tgt := 48) C dX12_letterAt_32 (by decide) g8 g9 (fun c10 => ?_) (fun c10 => ?_)
  · have hm := ite_f c10 hm
    refine lv_iload_n C.1 C.2.1 dX12_letterAt_48 rfl (lv_at hl 2 rfl) ?_
    refine lv_iconst (v := Int32.ofInt 5) C.1 C.2.1 dX12_letterAt_49 (by decide) ?_
    refine lv_iload_n C.1 C.2.1 dX12_letterAt_50 rfl (lv_at hl 4 rfl) ?_
    refine lv_iconst (v := Int32.ofInt 1) C.1 C.2.1 dX12_letterAt_51 (by decide) ?_
    refine z_isub C dX12_letterAt_52 ?_
    refine lv_iload_n C.1 C.2.1 dX12_letterAt_53 rfl (lv_at hl 3 rfl) ?_
    refine z_isub C dX12_letterAt_54 ?_
    refine z_imul C dX12_letterAt_55 ?_
    refine z_ishr C dX12_letterAt_56 ?_
    exact lm_letterAt_57 (N := N) C hr hlk  (lv_sub hl [] rfl) h hm
  · have hm := ite_t c10 hm
    refine lv_iload_n C.1 C.2.1 dX12_letterAt_35 rfl (lv_at hl 1 rfl) ?_
    refine lv_iconst (v := Int32.ofInt 5) C.1 C.2.1 dX12_letterAt_36 (by decide) ?_
    refine lv_iload C.1 C.2.1 dX12_letterAt_37 (lv_at hl 0 rfl) ?_
    refine lv_iconst (v := Int32.ofInt 1) C.1 C.2.1 dX12_letterAt_39 (by decide) ?_
    refine z_isub C dX12_letterAt_40 ?_
    refine lv_iload_n C.1 C.2.1 dX12_letterAt_41 rfl (lv_at hl 3 rfl) ?_
    refine z_isub C dX12_letterAt_42 ?_
    refine z_imul C dX12_letterAt_43 ?_
    refine z_ishr C dX12_letterAt_44 ?_
    refine lv_goto (tgt := 57) C.1 C.2.1 dX12_letterAt_45 (by decide) ?_
    exact lm_letterAt_57 (N := N) C hr hlk  (lv_sub hl [] rfl) h hm
set_option maxHeartbeats 4000000 in
set_option maxRecDepth 100000 in
theorem rc_letterAt (l : Launch) (D : va_G) (k : Nat → ClassId) (N : Nat) (x0 : Int) (x1 : Int) (x2 : Int) (r : Int) (hm : r_letterAt N x0 x1 x2 = some r) : Mi l yX12_letterAt (.code yX12_letterAt cX12_letterAt 6 (some .int) :: rW) { frames := 1, cells := 0, slots := 0, locals := 23 } [.int (Int32.ofInt x0), .int (Int32.ofInt x1), .int (Int32.ofInt x2)] D (TYs k) [] (fun _ => True) Unit (fun v _ => v = Int32.ofInt r) (fun _ => []) 0 0 := by
  intro sz
  refine x_met (cc := cX12_letterAt) (maxL := 6) (ret := (some .int)) (by decide) rfl (Nat.le_of_ble_eq_true rfl) ?_
  intro p e s m below meth c ls C hX hsz hr hlk hmn hl h
  have hl : lv_has ls 6 [(0, .int (Int32.ofInt x0)), (1, .int (Int32.ofInt x1)), (2, .int (Int32.ofInt x2))] := hl
  rw [r_letterAt] at hm
  refine lv_iload_n C.1 C.2.1 dX12_letterAt_0 rfl (lv_at hl 0 rfl) ?_
  refine lv_iload_n C.1 C.2.1 dX12_letterAt_1 rfl (lv_at hl 1 rfl) ?_
  obtain ⟨r1, e2, hm⟩ := obd_s hm
  refine q_callSi C h (rc_letters l D k N x0 x1 r1 e2) (cwS 2 C.2.2.1 (gR_letters _) rfl rfl rfl hd_letters ⟨Nat.le_of_ble_eq_true rfl, Nat.le_of_ble_eq_true rfl⟩) rfl hl.1 rfl (Nat.le_of_ble_eq_true rfl) dX12_letterAt_2 ⟨Nat.le_of_ble_eq_true rfl, Nat.le_of_ble_eq_true rfl⟩ (fun H locs h => ?_)
  refine lv_istore_n (lv' := [(3, .int (Int32.ofInt r1)), (0, .int (Int32.ofInt x0)), (1, .int (Int32.ofInt x1)), (2, .int (Int32.ofInt x2))]) C.1 C.2.1 dX12_letterAt_5 rfl hl (by decide) rfl (fun ls hl => ?_)
  refine lv_iload_n C.1 C.2.1 dX12_letterAt_6 rfl (lv_at hl 3 rfl) ?_
  obtain ⟨g3, hm⟩ := grd_s hm
  refine z_if_lt (tgt := 15) C dX12_letterAt_7 (by decide) g3 (fun c4 => ?_) (fun c4 => ?_)
  · have hm := ite_t c4 hm
    refine lv_iconst (v := Int32.ofInt (-1)) C.1 C.2.1 dX12_letterAt_15 (by decide) ?_
    cases hm
    exact q_iretS C h hr hlk dX12_letterAt_16 rfl
  · have hm := ite_f c4 hm
    refine lv_iload_n C.1 C.2.1 dX12_letterAt_10 rfl (lv_at hl 3 rfl) ?_
    refine lv_iload_n C.1 C.2.1 dX12_letterAt_11 rfl (lv_at hl 0 rfl) ?_
    obtain ⟨g5, hm⟩ := grd_s hm
    refine z_icmp_lt (tgt := 17) C dX12_letterAt_12 (by decide) g3 g5 (fun c6 => ?_) (fun c6 => ?_)
    · have hm := ite_t c6 hm
      refine lv_iload_n C.1 C.2.1 dX12_letterAt_17 rfl (lv_at hl 0 rfl) ?_
      refine lv_iconst (v := Int32.ofInt 4) C.1 C.2.1 dX12_letterAt_18 (by decide) ?_
      refine z_icmp_ge (tgt := 26) C dX12_letterAt_19 (by decide) g5 (by decide) (fun c7 => ?_) (fun c7 => ?_)
      · have hm := ite_f c7 hm
        refine lv_iconst (v := Int32.ofInt 4) C.1 C.2.1 dX12_letterAt_26 (by decide) ?_
        exact lm_letterAt_27 (N := N) C hr hlk  (lv_sub hl [1, 2, 3, 0] rfl) h hm
      · have hm := ite_t c7 hm
        refine lv_iload_n C.1 C.2.1 dX12_letterAt_22 rfl (lv_at hl 0 rfl) ?_
        refine lv_goto (tgt := 27) C.1 C.2.1 dX12_letterAt_23 (by decide) ?_
        exact lm_letterAt_27 (N := N) C hr hlk  (lv_sub hl [1, 2, 3, 0] rfl) h hm
    · have hm := ite_f c6 hm
      refine lv_iconst (v := Int32.ofInt (-1)) C.1 C.2.1 dX12_letterAt_15 (by decide) ?_
      cases hm
      exact q_iretS C h hr hlk dX12_letterAt_16 rfl
end L_letterAt
section L_event
variable {p : Program} {l : Launch} {e : Env} {s : State} {m : MethodId} {args : Array Value} {below : List Frame} {meth : Method} {c : Code} {D : va_G} {A : Nat → Prop} {k : Nat → ClassId} {g : Nat → Nat} {N : Nat} {cd : Cond}
set_option maxHeartbeats 4000000 in
set_option maxRecDepth 100000 in
theorem lm_event_77 {r : St × Int} (C : Cx p s m args c cX12_event RX12 (cd :: rW) D (TYs k) 3) (hr : meth.sig.returnType = (some .int)) (hlk : meth.locks = false)  {ls : Array Slot} {H : Heap} {locs : List Loc} {σ : St} {s0 : Int} {s1 : Int} {s2 : Int} (hl : lv_has ls 3 []) (h : Hp D A s.heap H locs (mW k g σ)) (hm : r_event_77 N  σ s0 s1 s2 = some r) : W p l e { frames := 2, cells := 0, slots := 0, locals := 55 } s m args below meth c H locs 0 0 (MQ below (va_Qi (fun v (_ : Unit) => v = Int32.ofInt r.2) (fun _ t => PostW D (TYs k) A (mW k g r.1) t) A) args s 0 0 A) (F0 m 77 ls [.int (Int32.ofInt s0), .long (Int64.ofInt s1), .long (Int64.ofInt s2)]) := by
  rw [r_event_77] at hm
  obtain ⟨r32, e33, hm⟩ := obd_s hm
  refine q_callSi C h (rc_lowest l D k N s2 s1 s0 r32 e33) (cwS 3 C.2.2.1 (gR_lowest _) rfl rfl rfl hd_lowest ⟨Nat.le_of_ble_eq_true rfl, Nat.le_of_ble_eq_true rfl⟩) rfl hl.1 rfl (Nat.le_of_ble_eq_true rfl) dX12_event_77 ⟨Nat.le_of_ble_eq_true rfl, Nat.le_of_ble_eq_true rfl⟩ (fun H locs h => ?_)
  cases hm
  exact q_iret C h hr hlk dX12_event_80 rfl
set_option maxHeartbeats 4000000 in
set_option maxRecDepth 100000 in
theorem lm_event_102 {r : St × Int} (C : Cx p s m args c cX12_event RX12 (cd :: rW) D (TYs k) 3) (hr : meth.sig.returnType = (some .int)) (hlk : meth.locks = false)  {ls : Array Slot} {H : Heap} {locs : List Loc} {σ : St} {s0 : Int} {s1 : Int} {s2 : Int} (hl : lv_has ls 3 []) (h : Hp D A s.heap H locs (mW k g σ)) (hm : r_event_102 N  σ s0 s1 s2 = some r) : W p l e { frames := 2, cells := 0, slots := 0, locals := 55 } s m args below meth c H locs 0 0 (MQ below (va_Qi (fun v (_ : Unit) => v = Int32.ofInt r.2) (fun _ t => PostW D (TYs k) A (mW k g r.1) t) A) args s 0 0 A) (F0 m 102 ls [.int (Int32.ofInt s0), .long (Int64.ofInt s1), .long (Int64.ofInt s2)]) := by
  rw [r_event_102] at hm
  obtain ⟨r34, e35, hm⟩ := obd_s hm
  refine q_callSi C h (rc_lowest l D k N s2 s1 s0 r34 e35) (cwS 3 C.2.2.1 (gR_lowest _) rfl rfl rfl hd_lowest ⟨Nat.le_of_ble_eq_true rfl, Nat.le_of_ble_eq_true rfl⟩) rfl hl.1 rfl (Nat.le_of_ble_eq_true rfl) dX12_event_102 ⟨Nat.le_of_ble_eq_true rfl, Nat.le_of_ble_eq_true rfl⟩ (fun H locs h => ?_)
  cases hm
  exact q_iret C h hr hlk dX12_event_105 rfl
set_option maxHeartbeats 4000000 in
set_option maxRecDepth 100000 in
theorem rc_event (l : Launch) (D : va_G) (k : Nat → ClassId) (g : Nat → Nat) (N : Nat) (σ : St) (x1 : Int) (x2 : Int) (r : St × Int) (hm : r_event N σ x1 x2 = some r) : Mi l yX12_event (.code yX12_event cX12_event 3 (some .int) :: rW) { frames := 2, cells := 0, slots := 0, locals := 55 } [.ref (g 0), .int (Int32.ofInt x1), .int (Int32.ofInt x2)] D (TYs k) (mW k g σ) (fun _ => True) Unit (fun v _ => v = Int32.ofInt r.2) (fun _ => mW k g r.1) 0 0 := by
  intro sz
  refine x_met (cc := cX12_event) (maxL := 3) (ret := (some .int)) (by decide) rfl (Nat.le_of_ble_eq_true rfl) ?_
  intro p e s m below meth c ls C hX hsz hr hlk hmn hl h
  have hl : lv_has ls 3 [(0, .ref (g 0)), (1, .int (Int32.ofInt x1)), (2, .int (Int32.ofInt x2))] := hl
  rw [r_event] at hm
  refine lv_iload_n C.1 C.2.1 dX12_event_0 rfl (lv_at hl 1 rfl) ?_
  obtain ⟨g1, hm⟩ := grd_s hm
  refine z_if_lt (tgt := 12) C dX12_event_1 (by decide) g1 (fun c2 => ?_) (fun c2 => ?_)
  · have hm := ite_t c2 hm
    refine lv_iconst (v := Int32.ofInt (-1)) C.1 C.2.1 dX12_event_12 (by decide) ?_
    cases hm
    exact q_iret C h hr hlk dX12_event_13 rfl
  · have hm := ite_f c2 hm
    refine lv_iload_n C.1 C.2.1 dX12_event_4 rfl (lv_at hl 1 rfl) ?_
    refine lv_aload_n C.1 C.2.1 dX12_event_5 rfl (lv_at hl 0 rfl) ?_
    refine fg_121 C h dX12_event_6 ?_
    obtain ⟨g3, hm⟩ := grd_s hm
    refine z_icmp_lt (tgt := 14) C dX12_event_9 (by decide) g1 g3 (fun c4 => ?_) (fun c4 => ?_)
    · have hm := ite_t c4 hm
      refine lv_iload_n C.1 C.2.1 dX12_event_14 rfl (lv_at hl 2 rfl) ?_
      obtain ⟨g5, hm⟩ := grd_s hm
      by_cases c6 : x2 = 0
      · refine x_topi (congrArg Int32.ofInt c6) ?_
        have hm := ite_t c6 hm
        refine lv_tableIn (tgt := 56) C.1 C.2.1 dX12_event_15 (by decide) (by decide) rfl (by decide) ?_
        refine lv_aload_n C.1 C.2.1 dX12_event_56 rfl (lv_at hl 0 rfl) ?_
        refine fg_122 C h dX12_event_57 ?_
        refine lv_iload_n C.1 C.2.1 dX12_event_60 rfl (lv_at hl 1 rfl) ?_
        obtain ⟨g7, hm⟩ := grd_s hm
        refine al_24 C h dX12_event_61 g7 ?_
        refine lv_aload_n C.1 C.2.1 dX12_event_62 rfl (lv_at hl 0 rfl) ?_
        refine fg_128 C h dX12_event_63 ?_
        obtain ⟨g8, hm⟩ := grd_s hm
        refine z_i2l C dX12_event_66 g8 ?_
        refine lv_iload_n C.1 C.2.1 dX12_event_67 rfl (lv_at hl 2 rfl) ?_
        refine lv_iconst (v := Int32.ofInt 1) C.1 C.2.1 dX12_event_68 (by decide) ?_
        refine z_icmp_ne (tgt := 76) C dX12_event_69 (by decide) g5 (by decide) (fun c9 => ?_) (fun c9 => ?_)
        · have hm := ite_f c9 hm
          refine lv_iconst (v := Int32.ofInt 0) C.1 C.2.1 dX12_event_76 (by decide) ?_
          exact lm_event_77 (N := N) C hr hlk  (lv_sub hl [] rfl) h hm
        · have hm := ite_t c9 hm
          refine lv_iconst (v := Int32.ofInt 1) C.1 C.2.1 dX12_event_72 (by decide) ?_
          refine lv_goto (tgt := 77) C.1 C.2.1 dX12_event_73 (by decide) ?_
          exact lm_event_77 (N := N) C hr hlk  (lv_sub hl [] rfl) h hm
      have hm := ite_f c6 hm
      by_cases c10 : x2 = 1
      · refine x_topi (congrArg Int32.ofInt c10) ?_
        have hm := ite_t c10 hm
        refine lv_tableIn (tgt := 56) C.1 C.2.1 dX12_event_15 (by decide) (by decide) rfl (by decide) ?_
        refine lv_aload_n C.1 C.2.1 dX12_event_56 rfl (lv_at hl 0 rfl) ?_
        refine fg_122 C h dX12_event_57 ?_
        refine lv_iload_n C.1 C.2.1 dX12_event_60 rfl (lv_at hl 1 rfl) ?_
        obtain ⟨g11, hm⟩ := grd_s hm
        refine al_24 C h dX12_event_61 g11 ?_
        refine lv_aload_n C.1 C.2.1 dX12_event_62 rfl (lv_at hl 0 rfl) ?_
        refine fg_128 C h dX12_event_63 ?_
        obtain ⟨g12, hm⟩ := grd_s hm
        refine z_i2l C dX12_event_66 g12 ?_
        refine lv_iload_n C.1 C.2.1 dX12_event_67 rfl (lv_at hl 2 rfl) ?_
        refine lv_iconst (v := Int32.ofInt 1) C.1 C.2.1 dX12_event_68 (by decide) ?_
        refine z_icmp_ne (tgt := 76) C dX12_event_69 (by decide) g5 (by decide) (fun c13 => ?_) (fun c13 => ?_)
        · have hm := ite_f c13 hm
          refine lv_iconst (v := Int32.ofInt 0) C.1 C.2.1 dX12_event_76 (by decide) ?_
          exact lm_event_77 (N := N) C hr hlk  (lv_sub hl [] rfl) h hm
        · have hm := ite_t c13 hm
          refine lv_iconst (v := Int32.ofInt 1) C.1 C.2.1 dX12_event_72 (by decide) ?_
          refine lv_goto (tgt := 77) C.1 C.2.1 dX12_event_73 (by decide) ?_
          exact lm_event_77 (N := N) C hr hlk  (lv_sub hl [] rfl) h hm
      have hm := ite_f c10 hm
      by_cases c14 : x2 = 2
      · refine x_topi (congrArg Int32.ofInt c14) ?_
        have hm := ite_t c14 hm
        refine lv_tableIn (tgt := 81) C.1 C.2.1 dX12_event_15 (by decide) (by decide) rfl (by decide) ?_
        refine lv_aload_n C.1 C.2.1 dX12_event_81 rfl (lv_at hl 0 rfl) ?_
        refine fg_123 C h dX12_event_82 ?_
        refine lv_iload_n C.1 C.2.1 dX12_event_85 rfl (lv_at hl 1 rfl) ?_
        obtain ⟨g15, hm⟩ := grd_s hm
        refine al_23 C h dX12_event_86 g15 ?_
        refine lv_aload_n C.1 C.2.1 dX12_event_87 rfl (lv_at hl 0 rfl) ?_
        refine fg_128 C h dX12_event_88 ?_
        obtain ⟨g16, hm⟩ := grd_s hm
        refine z_i2l C dX12_event_91 g16 ?_
        refine lv_iload_n C.1 C.2.1 dX12_event_92 rfl (lv_at hl 2 rfl) ?_
        refine lv_iconst (v := Int32.ofInt 3) C.1 C.2.1 dX12_event_93 (by decide) ?_
        refine z_icmp_ne (tgt := 101) C dX12_event_94 (by decide) g5 (by decide) (fun c17 => ?_) (fun c17 => ?_)
        · have hm := ite_f c17 hm
          refine lv_iconst (v := Int32.ofInt 0) C.1 C.2.1 dX12_event_101 (by decide) ?_
          exact lm_event_102 (N := N) C hr hlk  (lv_sub hl [] rfl) h hm
        · have hm := ite_t c17 hm
          refine lv_iconst (v := Int32.ofInt 1) C.1 C.2.1 dX12_event_97 (by decide) ?_
          refine lv_goto (tgt := 102) C.1 C.2.1 dX12_event_98 (by decide) ?_
          exact lm_event_102 (N := N) C hr hlk  (lv_sub hl [] rfl) h hm
      have hm := ite_f c14 hm
      by_cases c18 : x2 = 3
      · refine x_topi (congrArg Int32.ofInt c18) ?_
        have hm := ite_t c18 hm
        refine lv_tableIn (tgt := 81) C.1 C.2.1 dX12_event_15 (by decide) (by decide) rfl (by decide) ?_
        refine lv_aload_n C.1 C.2.1 dX12_event_81 rfl (lv_at hl 0 rfl) ?_
        refine fg_123 C h dX12_event_82 ?_
        refine lv_iload_n C.1 C.2.1 dX12_event_85 rfl (lv_at hl 1 rfl) ?_
        obtain ⟨g19, hm⟩ := grd_s hm
        refine al_23 C h dX12_event_86 g19 ?_
        refine lv_aload_n C.1 C.2.1 dX12_event_87 rfl (lv_at hl 0 rfl) ?_
        refine fg_128 C h dX12_event_88 ?_
        obtain ⟨g20, hm⟩ := grd_s hm
        refine z_i2l C dX12_event_91 g20 ?_
        refine lv_iload_n C.1 C.2.1 dX12_event_92 rfl (lv_at hl 2 rfl) ?_
        refine lv_iconst (v := Int32.ofInt 3) C.1 C.2.1 dX12_event_93 (by decide) ?_
        refine z_icmp_ne (tgt := 101) C dX12_event_94 (by decide) g5 (by decide) (fun c21 => ?_) (fun c21 => ?_)
        · have hm := ite_f c21 hm
          refine lv_iconst (v := Int32.ofInt 0) C.1 C.2.1 dX12_event_101 (by decide) ?_
          exact lm_event_102 (N := N) C hr hlk  (lv_sub hl [] rfl) h hm
        · have hm := ite_t c21 hm
          refine lv_iconst (v := Int32.ofInt 1) C.1 C.2.1 dX12_event_97 (by decide) ?_
          refine lv_goto (tgt := 102) C.1 C.2.1 dX12_event_98 (by decide) ?_
          exact lm_event_102 (N := N) C hr hlk  (lv_sub hl [] rfl) h hm
      have hm := ite_f c18 hm
      by_cases c22 : x2 = 4
      · refine x_topi (congrArg Int32.ofInt c22) ?_
        have hm := ite_t c22 hm
        refine lv_tableIn (tgt := 106) C.1 C.2.1 dX12_event_15 (by decide) (by decide) rfl (by decide) ?_
        refine lv_aload_n C.1 C.2.1 dX12_event_106 rfl (lv_at hl 0 rfl) ?_
        refine fg_127 C h dX12_event_107 ?_
        refine lv_iload_n C.1 C.2.1 dX12_event_110 rfl (lv_at hl 1 rfl) ?_
        obtain ⟨g23, hm⟩ := grd_s hm
        refine al_19 C h dX12_event_111 g23 ?_
        refine lv_iconst (v := Int32.ofInt 2) C.1 C.2.1 dX12_event_112 (by decide) ?_
        refine z_iand C dX12_event_113 ?_
        refine lv_iconst (v := Int32.ofInt 2) C.1 C.2.1 dX12_event_114 (by decide) ?_
        obtain ⟨g24, hm⟩ := grd_s hm
        refine z_icmp_ne (tgt := 127) C dX12_event_115 (by decide) g24 (by decide) (fun c25 => ?_) (fun c25 => ?_)
        · have hm := ite_f c25 hm
          refine lv_iconst (v := Int32.ofInt 0) C.1 C.2.1 dX12_event_127 (by decide) ?_
          cases hm
          exact q_iret C h hr hlk dX12_event_128 rfl
        · have hm := ite_t c25 hm
          refine lv_aload_n C.1 C.2.1 dX12_event_118 rfl (lv_at hl 0 rfl) ?_
          refine fg_126 C h dX12_event_119 ?_
          refine lv_iload_n C.1 C.2.1 dX12_event_122 rfl (lv_at hl 1 rfl) ?_
          refine al_20 C h dX12_event_123 g23 ?_
          refine lv_goto (tgt := 128) C.1 C.2.1 dX12_event_124 (by decide) ?_
          cases hm
          exact q_iret C h hr hlk dX12_event_128 rfl
      have hm := ite_f c22 hm
      by_cases c26 : x2 = 5
      · refine x_topi (congrArg Int32.ofInt c26) ?_
        have hm := ite_t c26 hm
        refine lv_tableIn (tgt := 129) C.1 C.2.1 dX12_event_15 (by decide) (by decide) rfl (by decide) ?_
        refine lv_aload_n C.1 C.2.1 dX12_event_129 rfl (lv_at hl 0 rfl) ?_
        refine fg_127 C h dX12_event_130 ?_
        refine lv_iload_n C.1 C.2.1 dX12_event_133 rfl (lv_at hl 1 rfl) ?_
        obtain ⟨g27, hm⟩ := grd_s hm
        refine al_19 C h dX12_event_134 g27 ?_
        refine lv_iconst (v := Int32.ofInt 1) C.1 C.2.1 dX12_event_135 (by decide) ?_
        refine z_ishr C dX12_event_136 ?_
        cases hm
        exact q_iret C h hr hlk dX12_event_137 rfl
      have hm := ite_f c26 hm
      by_cases c28 : x2 = 6
      · refine x_topi (congrArg Int32.ofInt c28) ?_
        have hm := ite_t c28 hm
        refine lv_tableIn (tgt := 138) C.1 C.2.1 dX12_event_15 (by decide) (by decide) rfl (by decide) ?_
        refine lv_aload_n C.1 C.2.1 dX12_event_138 rfl (lv_at hl 0 rfl) ?_
        refine fg_124 C h dX12_event_139 ?_
        refine lv_iload_n C.1 C.2.1 dX12_event_142 rfl (lv_at hl 1 rfl) ?_
        obtain ⟨g29, hm⟩ := grd_s hm
        refine al_22 C h dX12_event_143 g29 ?_
        refine lv_aload_n C.1 C.2.1 dX12_event_144 rfl (lv_at hl 0 rfl) ?_
        refine fg_125 C h dX12_event_145 ?_
        refine lv_iload_n C.1 C.2.1 dX12_event_148 rfl (lv_at hl 1 rfl) ?_
        refine al_21 C h dX12_event_149 g29 ?_
        obtain ⟨r30, e31, hm⟩ := obd_s hm
        refine q_callSi C h (rc_letters l D k N (el σ 22 x1) (el σ 21 x1) r30 e31) (cwS 2 C.2.2.1 (gR_letters _) rfl rfl rfl hd_letters ⟨Nat.le_of_ble_eq_true rfl, Nat.le_of_ble_eq_true rfl⟩) rfl hl.1 rfl (Nat.le_of_ble_eq_true rfl) dX12_event_150 ⟨Nat.le_of_ble_eq_true rfl, Nat.le_of_ble_eq_true rfl⟩ (fun H locs h => ?_)
        cases hm
        exact q_iret C h hr hlk dX12_event_153 rfl
      have hm := ite_f c28 hm
      refine lv_tableOut (tgt := 154) C.1 C.2.1 dX12_event_15 (by rw [c32_ti g5]; omega) (by decide) ?_
      refine lv_iconst (v := Int32.ofInt (-1)) C.1 C.2.1 dX12_event_154 (by decide) ?_
      cases hm
      exact q_iret C h hr hlk dX12_event_155 rfl
    · have hm := ite_f c4 hm
      refine lv_iconst (v := Int32.ofInt (-1)) C.1 C.2.1 dX12_event_12 (by decide) ?_
      cases hm
      exact q_iret C h hr hlk dX12_event_13 rfl
end L_event
section L_letter
variable {p : Program} {l : Launch} {e : Env} {s : State} {m : MethodId} {args : Array Value} {below : List Frame} {meth : Method} {c : Code} {D : va_G} {A : Nat → Prop} {k : Nat → ClassId} {g : Nat → Nat} {N : Nat} {cd : Cond}
set_option maxHeartbeats 4000000 in
set_option maxRecDepth 100000 in
theorem lm_letter_12 {r : St × Int} (C : Cx p s m args c cX12_letter RX12 (cd :: rW) D (TYs k) 3) (hr : meth.sig.returnType = (some .int)) (hlk : meth.locks = false)  {ls : Array Slot} {H : Heap} {locs : List Loc} {σ : St}  (hl : lv_has ls 3 []) (h : Hp D A s.heap H locs (mW k g σ)) (hm : r_letter_12 N  σ  = some r) : W p l e { frames := 2, cells := 0, slots := 0, locals := 48 } s m args below meth c H locs 0 0 (MQ below (va_Qi (fun v (_ : Unit) => v = Int32.ofInt r.2) (fun _ t => PostW D (TYs k) A (mW k g r.1) t) A) args s 0 0 A) (F0 m 12 ls []) := by
  rw [r_letter_12] at hm
  refine lv_iconst (v := Int32.ofInt (-1)) C.1 C.2.1 dX12_letter_12 (by decide) ?_
  refine lv_goto (tgt := 32) C.1 C.2.1 dX12_letter_13 (by decide) ?_
  cases hm
  exact q_iret C h hr hlk dX12_letter_32 rfl
set_option maxHeartbeats 4000000 in
set_option maxRecDepth 100000 in
theorem rc_letter (l : Launch) (D : va_G) (k : Nat → ClassId) (g : Nat → Nat) (N : Nat) (σ : St) (x1 : Int) (x2 : Int) (r : St × Int) (hm : r_letter N σ x1 x2 = some r) : Mi l yX12_letter (.code yX12_letter cX12_letter 3 (some .int) :: rW) { frames := 2, cells := 0, slots := 0, locals := 48 } [.ref (g 0), .int (Int32.ofInt x1), .int (Int32.ofInt x2)] D (TYs k) (mW k g σ) (fun _ => True) Unit (fun v _ => v = Int32.ofInt r.2) (fun _ => mW k g r.1) 0 0 := by
  intro sz
  refine x_met (cc := cX12_letter) (maxL := 3) (ret := (some .int)) (by decide) rfl (Nat.le_of_ble_eq_true rfl) ?_
  intro p e s m below meth c ls C hX hsz hr hlk hmn hl h
  have hl : lv_has ls 3 [(0, .ref (g 0)), (1, .int (Int32.ofInt x1)), (2, .int (Int32.ofInt x2))] := hl
  rw [r_letter] at hm
  refine lv_iload_n C.1 C.2.1 dX12_letter_0 rfl (lv_at hl 1 rfl) ?_
  obtain ⟨g1, hm⟩ := grd_s hm
  refine z_if_lt (tgt := 12) C dX12_letter_1 (by decide) g1 (fun c2 => ?_) (fun c2 => ?_)
  · have hm := ite_t c2 hm
    exact lm_letter_12 (N := N) C hr hlk  (lv_sub hl [] rfl) h hm
  · have hm := ite_f c2 hm
    refine lv_iload_n C.1 C.2.1 dX12_letter_4 rfl (lv_at hl 1 rfl) ?_
    refine lv_aload_n C.1 C.2.1 dX12_letter_5 rfl (lv_at hl 0 rfl) ?_
    refine fg_121 C h dX12_letter_6 ?_
    obtain ⟨g3, hm⟩ := grd_s hm
    refine z_icmp_lt (tgt := 16) C dX12_letter_9 (by decide) g1 g3 (fun c4 => ?_) (fun c4 => ?_)
    · have hm := ite_t c4 hm
      refine lv_aload_n C.1 C.2.1 dX12_letter_16 rfl (lv_at hl 0 rfl) ?_
      refine fg_124 C h dX12_letter_17 ?_
      refine lv_iload_n C.1 C.2.1 dX12_letter_20 rfl (lv_at hl 1 rfl) ?_
      obtain ⟨g5, hm⟩ := grd_s hm
      refine al_22 C h dX12_letter_21 g5 ?_
      refine lv_aload_n C.1 C.2.1 dX12_letter_22 rfl (lv_at hl 0 rfl) ?_
      refine fg_125 C h dX12_letter_23 ?_
      refine lv_iload_n C.1 C.2.1 dX12_letter_26 rfl (lv_at hl 1 rfl) ?_
      refine al_21 C h dX12_letter_27 g5 ?_
      refine lv_iload_n C.1 C.2.1 dX12_letter_28 rfl (lv_at hl 2 rfl) ?_
      obtain ⟨r6, e7, hm⟩ := obd_s hm
      refine q_callSi C h (rc_letterAt l D k N (el σ 22 x1) (el σ 21 x1) x2 r6 e7) (cwS 3 C.2.2.1 (gR_letterAt _) rfl rfl rfl hd_letterAt ⟨Nat.le_of_ble_eq_true rfl, Nat.le_of_ble_eq_true rfl⟩) rfl hl.1 rfl (Nat.le_of_ble_eq_true rfl) dX12_letter_29 ⟨Nat.le_of_ble_eq_true rfl, Nat.le_of_ble_eq_true rfl⟩ (fun H locs h => ?_)
      cases hm
      exact q_iret C h hr hlk dX12_letter_32 rfl
    · have hm := ite_f c4 hm
      exact lm_letter_12 (N := N) C hr hlk  (lv_sub hl [] rfl) h hm
end L_letter
section L_isSounding
variable {p : Program} {l : Launch} {e : Env} {s : State} {m : MethodId} {args : Array Value} {below : List Frame} {meth : Method} {c : Code} {D : va_G} {A : Nat → Prop} {k : Nat → ClassId} {g : Nat → Nat} {N : Nat} {cd : Cond}
set_option maxHeartbeats 4000000 in
set_option maxRecDepth 100000 in
theorem lm_isSounding_28 {r : St × Int} (C : Cx p s m args c cX12_isSounding RX12 (cd :: rW) D (TYs k) 4) (hr : meth.sig.returnType = (some .boolean)) (hlk : meth.locks = false) {rec4 : St → Int → Int → Int → Option (St × Int)} (hrec4 : ∀ {ls : Array Slot} {H : Heap} {locs : List Loc} {σ : St} {x1 : Int} {x2 : Int} {x3 : Int}, lv_has ls 4 [(0, .ref (g 0)), (1, .int (Int32.ofInt x1)), (2, .int (Int32.ofInt x2)), (3, .int (Int32.ofInt x3))] → Hp D A s.heap H locs (mW k g σ) → rec4 σ x1 x2 x3 = some r → W p l e { frames := 0, cells := 0, slots := 0, locals := 0 } s m args below meth c H locs 0 0 (MQ below (va_Qi (fun v (_ : Unit) => v = Int32.ofInt r.2) (fun _ t => PostW D (TYs k) A (mW k g r.1) t) A) args s 0 0 A) (F0 m 4 ls [])) {ls : Array Slot} {H : Heap} {locs : List Loc} {σ : St} {x1 : Int} {x3 : Int} {s0 : Int} (hl : lv_has ls 4 [(0, .ref (g 0)), (1, .int (Int32.ofInt x1)), (3, .int (Int32.ofInt x3))]) (h : Hp D A s.heap H locs (mW k g σ)) (hm : r_isSounding_28 N rec4 σ x1 x3 s0 = some r) : W p l e { frames := 0, cells := 0, slots := 0, locals := 0 } s m args below meth c H locs 0 0 (MQ below (va_Qi (fun v (_ : Unit) => v = Int32.ofInt r.2) (fun _ t => PostW D (TYs k) A (mW k g r.1) t) A) args s 0 0 A) (F0 m 28 ls [.int (Int32.ofInt s0)]) := by
  rw [r_isSounding_28] at hm
  refine lv_istore_n (lv' := [(2, .int (Int32.ofInt s0)), (0, .ref (g 0)), (1, .int (Int32.ofInt x1)), (3, .int (Int32.ofInt x3))]) C.1 C.2.1 dX12_isSounding_28 rfl hl (by decide) rfl (fun ls hl => ?_)
  refine lv_iinc (v := Int32.ofInt (x3 + 1)) (lv' := [(3, .int (Int32.ofInt (x3 + 1))), (2, .int (Int32.ofInt s0)), (0, .ref (g 0)), (1, .int (Int32.ofInt x1))]) C.1 C.2.1 dX12_isSounding_29 hl (k := 3) rfl (c32_add _ _) (by decide) rfl (fun ls hl => ?_)
  refine lv_goto (tgt := 4) C.1 C.2.1 dX12_isSounding_32 (by decide) ?_
  exact hrec4 (lv_sub hl [2, 3, 1, 0] rfl) h hm
set_option maxHeartbeats 4000000 in
set_option maxRecDepth 100000 in
theorem lm_isSounding_23 {r : St × Int} (C : Cx p s m args c cX12_isSounding RX12 (cd :: rW) D (TYs k) 4) (hr : meth.sig.returnType = (some .boolean)) (hlk : meth.locks = false) {rec4 : St → Int → Int → Int → Option (St × Int)} (hrec4 : ∀ {ls : Array Slot} {H : Heap} {locs : List Loc} {σ : St} {x1 : Int} {x2 : Int} {x3 : Int}, lv_has ls 4 [(0, .ref (g 0)), (1, .int (Int32.ofInt x1)), (2, .int (Int32.ofInt x2)), (3, .int (Int32.ofInt x3))] → Hp D A s.heap H locs (mW k g σ) → rec4 σ x1 x2 x3 = some r → W p l e { frames := 0, cells := 0, slots := 0, locals := 0 } s m args below meth c H locs 0 0 (MQ below (va_Qi (fun v (_ : Unit) => v = Int32.ofInt r.2) (fun _ t => PostW D (TYs k) A (mW k g r.1) t) A) args s 0 0 A) (F0 m 4 ls [])) {ls : Array Slot} {H : Heap} {locs : List Loc} {σ : St} {x1 : Int} {x3 : Int} (hl : lv_has ls 4 [(0, .ref (g 0)), (1, .int (Int32.ofInt x1)), (3, .int (Int32.ofInt x3))]) (h : Hp D A s.heap H locs (mW k g σ)) (hm : r_isSounding_23 N rec4 σ x1 x3 = some r) : W p l e { frames := 0, cells := 0, slots := 0, locals := 0 } s m args below meth c H locs 0 0 (MQ below (va_Qi (fun v (_ : Unit) => v = Int32.ofInt r.2) (fun _ t => PostW D (TYs k) A (mW k g r.1) t) A) args s 0 0 A) (F0 m 23 ls []) := by
  rw [r_isSounding_23] at hm
  refine lv_iconst (v := Int32.ofInt 1) C.1 C.2.1 dX12_isSounding_23 (by decide) ?_
  refine lv_goto (tgt := 28) C.1 C.2.1 dX12_isSounding_24 (by decide) ?_
  exact lm_isSounding_28 (N := N) C hr hlk hrec4 (lv_sub hl [0, 1, 2] rfl) h hm
set_option maxHeartbeats 4000000 in
set_option maxRecDepth 100000 in
theorem lm_isSounding_57 {r : St × Int} (C : Cx p s m args c cX12_isSounding RX12 (cd :: rW) D (TYs k) 4) (hr : meth.sig.returnType = (some .boolean)) (hlk : meth.locks = false)  {ls : Array Slot} {H : Heap} {locs : List Loc} {σ : St}  (hl : lv_has ls 4 []) (h : Hp D A s.heap H locs (mW k g σ)) (hm : r_isSounding_57 N  σ  = some r) : W p l e { frames := 0, cells := 0, slots := 0, locals := 0 } s m args below meth c H locs 0 0 (MQ below (va_Qi (fun v (_ : Unit) => v = Int32.ofInt r.2) (fun _ t => PostW D (TYs k) A (mW k g r.1) t) A) args s 0 0 A) (F0 m 57 ls []) := by
  rw [r_isSounding_57] at hm
  refine lv_iconst (v := Int32.ofInt 1) C.1 C.2.1 dX12_isSounding_57 (by decide) ?_
  refine lv_goto (tgt := 62) C.1 C.2.1 dX12_isSounding_58 (by decide) ?_
  cases hm
  exact q_iret C h hr hlk dX12_isSounding_62 rfl
set_option maxHeartbeats 4000000 in
set_option maxRecDepth 100000 in
theorem lm_isSounding_4 {r : St × Int} (C : Cx p s m args c cX12_isSounding RX12 (cd :: rW) D (TYs k) 4) (hr : meth.sig.returnType = (some .boolean)) (hlk : meth.locks = false)  (n : Nat) : ∀ {ls : Array Slot} {H : Heap} {locs : List Loc} {σ : St} {x1 : Int} {x2 : Int} {x3 : Int}, lv_has ls 4 [(0, .ref (g 0)), (1, .int (Int32.ofInt x1)), (2, .int (Int32.ofInt x2)), (3, .int (Int32.ofInt x3))] → Hp D A s.heap H locs (mW k g σ) → r_isSounding_4 N  n σ x1 x2 x3 = some r → W p l e { frames := 0, cells := 0, slots := 0, locals := 0 } s m args below meth c H locs 0 0 (MQ below (va_Qi (fun v (_ : Unit) => v = Int32.ofInt r.2) (fun _ t => PostW D (TYs k) A (mW k g r.1) t) A) args s 0 0 A) (F0 m 4 ls []) := by
  induction n with
  | zero => intro ls H locs σ x1 x2 x3 hl h hm; cases (show none = some r from hm)
  | succ n hrec4 =>
    intro ls H locs σ x1 x2 x3 hl h hm
    rw [r_isSounding_4] at hm
    refine lv_iload_n C.1 C.2.1 dX12_isSounding_4 rfl (lv_at hl 3 rfl) ?_
    refine lv_bipush (v := Int32.ofInt 8) C.1 C.2.1 dX12_isSounding_5 (by decide) ?_
    obtain ⟨g1, hm⟩ := grd_s hm
    refine z_icmp_ge (tgt := 35) C dX12_isSounding_7 (by decide) g1 (by decide) (fun c2 => ?_) (fun c2 => ?_)
    · have hm := ite_f c2 hm
      refine lv_aload_n C.1 C.2.1 dX12_isSounding_35 rfl (lv_at hl 0 rfl) ?_
      refine fg_113 C h dX12_isSounding_36 ?_
      refine lv_iload_n C.1 C.2.1 dX12_isSounding_39 rfl (lv_at hl 1 rfl) ?_
      obtain ⟨g3, hm⟩ := grd_s hm
      refine al_26 C h dX12_isSounding_40 g3 ?_
      obtain ⟨g4, hm⟩ := grd_s hm
      refine z_if_ne (tgt := 61) C dX12_isSounding_41 (by decide) g4 (fun c5 => ?_) (fun c5 => ?_)
      · have hm := ite_f c5 hm
        refine lv_iconst (v := Int32.ofInt 0) C.1 C.2.1 dX12_isSounding_61 (by decide) ?_
        cases hm
        exact q_iret C h hr hlk dX12_isSounding_62 rfl
      · have hm := ite_t c5 hm
        refine lv_iload_n C.1 C.2.1 dX12_isSounding_44 rfl (lv_at hl 2 rfl) ?_
        obtain ⟨g6, hm⟩ := grd_s hm
        refine z_if_eq (tgt := 57) C dX12_isSounding_45 (by decide) g6 (fun c7 => ?_) (fun c7 => ?_)
        · have hm := ite_t c7 hm
          exact lm_isSounding_57 (N := N) C hr hlk  (lv_sub hl [] rfl) h hm
        · have hm := ite_f c7 hm
          refine lv_aload_n C.1 C.2.1 dX12_isSounding_48 rfl (lv_at hl 0 rfl) ?_
          refine fg_114 C h dX12_isSounding_49 ?_
          refine lv_iload_n C.1 C.2.1 dX12_isSounding_52 rfl (lv_at hl 1 rfl) ?_
          refine al_25 C h dX12_isSounding_53 g3 ?_
          obtain ⟨g8, hm⟩ := grd_s hm
          refine z_if_eq (tgt := 61) C dX12_isSounding_54 (by decide) g8 (fun c9 => ?_) (fun c9 => ?_)
          · have hm := ite_t c9 hm
            refine lv_iconst (v := Int32.ofInt 0) C.1 C.2.1 dX12_isSounding_61 (by decide) ?_
            cases hm
            exact q_iret C h hr hlk dX12_isSounding_62 rfl
          · have hm := ite_f c9 hm
            exact lm_isSounding_57 (N := N) C hr hlk  (lv_sub hl [] rfl) h hm
    · have hm := ite_t c2 hm
      refine lv_iload_n C.1 C.2.1 dX12_isSounding_10 rfl (lv_at hl 2 rfl) ?_
      obtain ⟨g10, hm⟩ := grd_s hm
      refine z_if_ne (tgt := 23) C dX12_isSounding_11 (by decide) g10 (fun c11 => ?_) (fun c11 => ?_)
      · have hm := ite_f c11 hm
        exact lm_isSounding_23 (N := N) C hr hlk hrec4 (lv_sub hl [0, 1, 3] rfl) h hm
      · have hm := ite_t c11 hm
        refine lv_aload_n C.1 C.2.1 dX12_isSounding_14 rfl (lv_at hl 0 rfl) ?_
        refine fg_114 C h dX12_isSounding_15 ?_
        refine lv_iload_n C.1 C.2.1 dX12_isSounding_18 rfl (lv_at hl 3 rfl) ?_
        obtain ⟨g12, hm⟩ := grd_s hm
        refine al_25 C h dX12_isSounding_19 g12 ?_
        obtain ⟨g13, hm⟩ := grd_s hm
        refine z_if_eq (tgt := 27) C dX12_isSounding_20 (by decide) g13 (fun c14 => ?_) (fun c14 => ?_)
        · have hm := ite_t c14 hm
          refine lv_iconst (v := Int32.ofInt 0) C.1 C.2.1 dX12_isSounding_27 (by decide) ?_
          exact lm_isSounding_28 (N := N) C hr hlk hrec4 (lv_sub hl [0, 1, 3] rfl) h hm
        · have hm := ite_f c14 hm
          exact lm_isSounding_23 (N := N) C hr hlk hrec4 (lv_sub hl [0, 1, 3] rfl) h hm
set_option maxHeartbeats 4000000 in
set_option maxRecDepth 100000 in
theorem rc_isSounding (l : Launch) (D : va_G) (k : Nat → ClassId) (g : Nat → Nat) (N : Nat) (σ : St) (x1 : Int) (r : St × Int) (hm : r_isSounding N σ x1 = some r) : Mi l yX12_isSounding (.code yX12_isSounding cX12_isSounding 4 (some .boolean) :: rW) { frames := 0, cells := 0, slots := 0, locals := 0 } [.ref (g 0), .int (Int32.ofInt x1)] D (TYs k) (mW k g σ) (fun _ => True) Unit (fun v _ => v = Int32.ofInt r.2) (fun _ => mW k g r.1) 0 0 := by
  intro sz
  refine x_met (cc := cX12_isSounding) (maxL := 4) (ret := (some .boolean)) (by decide) rfl (Nat.le_of_ble_eq_true rfl) ?_
  intro p e s m below meth c ls C hX hsz hr hlk hmn hl h
  have hl : lv_has ls 4 [(0, .ref (g 0)), (1, .int (Int32.ofInt x1))] := hl
  rw [r_isSounding] at hm
  refine lv_iconst (v := Int32.ofInt 0) C.1 C.2.1 dX12_isSounding_0 (by decide) ?_
  refine lv_istore_n (lv' := [(2, .int (Int32.ofInt 0)), (0, .ref (g 0)), (1, .int (Int32.ofInt x1))]) C.1 C.2.1 dX12_isSounding_1 rfl hl (by decide) rfl (fun ls hl => ?_)
  refine lv_iconst (v := Int32.ofInt 0) C.1 C.2.1 dX12_isSounding_2 (by decide) ?_
  refine lv_istore_n (lv' := [(3, .int (Int32.ofInt 0)), (2, .int (Int32.ofInt 0)), (0, .ref (g 0)), (1, .int (Int32.ofInt x1))]) C.1 C.2.1 dX12_isSounding_3 rfl hl (by decide) rfl (fun ls hl => ?_)
  exact lm_isSounding_4 (N := N) C hr hlk  N (lv_sub hl [2, 3, 1, 0] rfl) h hm
end L_isSounding
section L_swaps
variable {p : Program} {l : Launch} {e : Env} {s : State} {m : MethodId} {args : Array Value} {below : List Frame} {meth : Method} {c : Code} {D : va_G} {A : Nat → Prop} {k : Nat → ClassId} {g : Nat → Nat} {N : Nat} {cd : Cond}
set_option maxHeartbeats 4000000 in
set_option maxRecDepth 100000 in
theorem lm_swaps_42 {r : St} (C : Cx p s m args c cX12_swaps RX12 (cd :: rW) D (TYs k) 2) (hr : meth.sig.returnType = none) (hlk : meth.locks = false) {rec2 : St → Int → Option St} (hrec2 : ∀ {ls : Array Slot} {H : Heap} {locs : List Loc} {σ : St} {x1 : Int}, lv_has ls 2 [(0, .ref (g 0)), (1, .int (Int32.ofInt x1))] → Hp D A s.heap H locs (mW k g σ) → rec2 σ x1 = some r → W p l e { frames := 0, cells := 0, slots := 0, locals := 0 } s m args below meth c H locs 0 0 (MQ below (va_Qv (fun (_ : Unit) => True) (fun _ t => PostW D (TYs k) A (mW k g r) t) A) args s 0 0 A) (F0 m 2 ls [])) {ls : Array Slot} {H : Heap} {locs : List Loc} {σ : St} {x1 : Int} (hl : lv_has ls 2 [(0, .ref (g 0)), (1, .int (Int32.ofInt x1))]) (h : Hp D A s.heap H locs (mW k g σ)) (hm : r_swaps_42 N rec2 σ x1 = some r) : W p l e { frames := 0, cells := 0, slots := 0, locals := 0 } s m args below meth c H locs 0 0 (MQ below (va_Qv (fun (_ : Unit) => True) (fun _ t => PostW D (TYs k) A (mW k g r) t) A) args s 0 0 A) (F0 m 42 ls []) := by
  rw [r_swaps_42] at hm
  refine lv_iinc (v := Int32.ofInt (x1 + 1)) (lv' := [(1, .int (Int32.ofInt (x1 + 1))), (0, .ref (g 0))]) C.1 C.2.1 dX12_swaps_42 hl (k := 1) rfl (c32_add _ _) (by decide) rfl (fun ls hl => ?_)
  refine lv_goto (tgt := 2) C.1 C.2.1 dX12_swaps_45 (by decide) ?_
  exact hrec2 (lv_sub hl [1, 0] rfl) h hm
set_option maxHeartbeats 4000000 in
set_option maxRecDepth 100000 in
theorem lm_swaps_2 {r : St} (C : Cx p s m args c cX12_swaps RX12 (cd :: rW) D (TYs k) 2) (hr : meth.sig.returnType = none) (hlk : meth.locks = false)  (n : Nat) : ∀ {ls : Array Slot} {H : Heap} {locs : List Loc} {σ : St} {x1 : Int}, lv_has ls 2 [(0, .ref (g 0)), (1, .int (Int32.ofInt x1))] → Hp D A s.heap H locs (mW k g σ) → r_swaps_2 N  n σ x1 = some r → W p l e { frames := 0, cells := 0, slots := 0, locals := 0 } s m args below meth c H locs 0 0 (MQ below (va_Qv (fun (_ : Unit) => True) (fun _ t => PostW D (TYs k) A (mW k g r) t) A) args s 0 0 A) (F0 m 2 ls []) := by
  induction n with
  | zero => intro ls H locs σ x1 hl h hm; cases (show none = some r from hm)
  | succ n hrec2 =>
    intro ls H locs σ x1 hl h hm
    rw [r_swaps_2] at hm
    refine lv_iload_n C.1 C.2.1 dX12_swaps_2 rfl (lv_at hl 1 rfl) ?_
    refine lv_bipush (v := Int32.ofInt 8) C.1 C.2.1 dX12_swaps_3 (by decide) ?_
    obtain ⟨g1, hm⟩ := grd_s hm
    refine z_icmp_ge (tgt := 48) C dX12_swaps_5 (by decide) g1 (by decide) (fun c2 => ?_) (fun c2 => ?_)
    · have hm := ite_f c2 hm
      cases hm
      exact q_vret C h hr hlk dX12_swaps_48
    · have hm := ite_t c2 hm
      refine lv_aload_n C.1 C.2.1 dX12_swaps_8 rfl (lv_at hl 0 rfl) ?_
      refine fg_112 C h dX12_swaps_9 ?_
      refine lv_iload_n C.1 C.2.1 dX12_swaps_12 rfl (lv_at hl 1 rfl) ?_
      obtain ⟨g3, hm⟩ := grd_s hm
      refine al_27 C h dX12_swaps_13 g3 ?_
      refine lv_bipush (v := Int32.ofInt (-2)) C.1 C.2.1 dX12_swaps_14 (by decide) ?_
      obtain ⟨g4, hm⟩ := grd_s hm
      refine z_icmp_ne (tgt := 22) C dX12_swaps_16 (by decide) g4 (by decide) (fun c5 => ?_) (fun c5 => ?_)
      · have hm := ite_f c5 hm
        refine lv_aload_n C.1 C.2.1 dX12_swaps_22 rfl (lv_at hl 0 rfl) ?_
        refine fg_111 C h dX12_swaps_23 ?_
        refine lv_iload_n C.1 C.2.1 dX12_swaps_26 rfl (lv_at hl 1 rfl) ?_
        refine lv_aload_n C.1 C.2.1 dX12_swaps_27 rfl (lv_at hl 0 rfl) ?_
        refine fg_112 C h dX12_swaps_28 ?_
        refine lv_iload_n C.1 C.2.1 dX12_swaps_31 rfl (lv_at hl 1 rfl) ?_
        refine al_27 C h dX12_swaps_32 g3 ?_
        refine as_28 C h dX12_swaps_33 g3 (fun H locs h => ?_)
        refine lv_aload_n C.1 C.2.1 dX12_swaps_34 rfl (lv_at hl 0 rfl) ?_
        refine fg_112 C h dX12_swaps_35 ?_
        refine lv_iload_n C.1 C.2.1 dX12_swaps_38 rfl (lv_at hl 1 rfl) ?_
        refine lv_bipush (v := Int32.ofInt (-2)) C.1 C.2.1 dX12_swaps_39 (by decide) ?_
        refine as_27 C h dX12_swaps_41 g3 (fun H locs h => ?_)
        exact lm_swaps_42 (N := N) C hr hlk hrec2 (lv_sub hl [0, 1] rfl) h hm
      · have hm := ite_t c5 hm
        refine lv_goto (tgt := 42) C.1 C.2.1 dX12_swaps_19 (by decide) ?_
        exact lm_swaps_42 (N := N) C hr hlk hrec2 (lv_sub hl [0, 1] rfl) h hm
set_option maxHeartbeats 4000000 in
set_option maxRecDepth 100000 in
theorem rc_swaps (l : Launch) (D : va_G) (k : Nat → ClassId) (g : Nat → Nat) (N : Nat) (σ : St)  (r : St) (hm : r_swaps N σ  = some r) : Mv l yX12_swaps (.code yX12_swaps cX12_swaps 2 none :: rW) { frames := 0, cells := 0, slots := 0, locals := 0 } [.ref (g 0)] D (TYs k) (mW k g σ) (fun _ => True) Unit (fun _ => True) (fun _ => mW k g r) 0 0 := by
  intro sz
  refine x_met (cc := cX12_swaps) (maxL := 2) (ret := none) (by decide) rfl (Nat.le_of_ble_eq_true rfl) ?_
  intro p e s m below meth c ls C hX hsz hr hlk hmn hl h
  have hl : lv_has ls 2 [(0, .ref (g 0))] := hl
  rw [r_swaps] at hm
  refine lv_iconst (v := Int32.ofInt 0) C.1 C.2.1 dX12_swaps_0 (by decide) ?_
  refine lv_istore_n (lv' := [(1, .int (Int32.ofInt 0)), (0, .ref (g 0))]) C.1 C.2.1 dX12_swaps_1 rfl hl (by decide) rfl (fun ls hl => ?_)
  exact lm_swaps_2 (N := N) C hr hlk  N (lv_sub hl [1, 0] rfl) h hm
end L_swaps
section L_arrange
variable {p : Program} {l : Launch} {e : Env} {s : State} {m : MethodId} {args : Array Value} {below : List Frame} {meth : Method} {c : Code} {D : va_G} {A : Nat → Prop} {k : Nat → ClassId} {g : Nat → Nat} {N : Nat} {cd : Cond}
set_option maxHeartbeats 4000000 in
set_option maxRecDepth 100000 in
theorem lm_arrange_82 {r : St} (C : Cx p s m args c cX12_arrange RX12 (cd :: rW) D (TYs k) 3) (hr : meth.sig.returnType = none) (hlk : meth.locks = false) {rec2 : St → Int → Option St} (hrec2 : ∀ {ls : Array Slot} {H : Heap} {locs : List Loc} {σ : St} {x1 : Int}, lv_has ls 3 [(0, .ref (g 0)), (1, .int (Int32.ofInt x1))] → Hp D A s.heap H locs (mW k g σ) → rec2 σ x1 = some r → W p l e { frames := 0, cells := 0, slots := 0, locals := 0 } s m args below meth c H locs 0 0 (MQ below (va_Qv (fun (_ : Unit) => True) (fun _ t => PostW D (TYs k) A (mW k g r) t) A) args s 0 0 A) (F0 m 2 ls [])) {ls : Array Slot} {H : Heap} {locs : List Loc} {σ : St} {x1 : Int} {x2 : Int} (hl : lv_has ls 3 [(0, .ref (g 0)), (1, .int (Int32.ofInt x1)), (2, .int (Int32.ofInt x2))]) (h : Hp D A s.heap H locs (mW k g σ)) (hm : r_arrange_82 N rec2 σ x1 x2 = some r) : W p l e { frames := 0, cells := 0, slots := 0, locals := 0 } s m args below meth c H locs 0 0 (MQ below (va_Qv (fun (_ : Unit) => True) (fun _ t => PostW D (TYs k) A (mW k g r) t) A) args s 0 0 A) (F0 m 82 ls []) := by
  rw [r_arrange_82] at hm
  refine lv_aload_n C.1 C.2.1 dX12_arrange_82 rfl (lv_at hl 0 rfl) ?_
  refine fg_148 C h dX12_arrange_83 ?_
  refine lv_iload_n C.1 C.2.1 dX12_arrange_86 rfl (lv_at hl 2 rfl) ?_
  refine lv_iload_n C.1 C.2.1 dX12_arrange_87 rfl (lv_at hl 1 rfl) ?_
  obtain ⟨g15, hm⟩ := grd_s hm
  refine as_1 C h dX12_arrange_88 g15 (fun H locs h => ?_)
  refine lv_iinc (v := Int32.ofInt (x1 + 1)) (lv' := [(1, .int (Int32.ofInt (x1 + 1))), (0, .ref (g 0)), (2, .int (Int32.ofInt x2))]) C.1 C.2.1 dX12_arrange_89 hl (k := 1) rfl (c32_add _ _) (by decide) rfl (fun ls hl => ?_)
  refine lv_goto (tgt := 2) C.1 C.2.1 dX12_arrange_92 (by decide) ?_
  exact hrec2 (lv_sub hl [1, 0] rfl) h hm
set_option maxHeartbeats 4000000 in
set_option maxRecDepth 100000 in
theorem lm_arrange_12 {r : St} (C : Cx p s m args c cX12_arrange RX12 (cd :: rW) D (TYs k) 3) (hr : meth.sig.returnType = none) (hlk : meth.locks = false) {rec2 : St → Int → Option St} (hrec2 : ∀ {ls : Array Slot} {H : Heap} {locs : List Loc} {σ : St} {x1 : Int}, lv_has ls 3 [(0, .ref (g 0)), (1, .int (Int32.ofInt x1))] → Hp D A s.heap H locs (mW k g σ) → rec2 σ x1 = some r → W p l e { frames := 0, cells := 0, slots := 0, locals := 0 } s m args below meth c H locs 0 0 (MQ below (va_Qv (fun (_ : Unit) => True) (fun _ t => PostW D (TYs k) A (mW k g r) t) A) args s 0 0 A) (F0 m 2 ls [])) (n : Nat) : ∀ {ls : Array Slot} {H : Heap} {locs : List Loc} {σ : St} {x1 : Int} {x2 : Int}, lv_has ls 3 [(0, .ref (g 0)), (1, .int (Int32.ofInt x1)), (2, .int (Int32.ofInt x2))] → Hp D A s.heap H locs (mW k g σ) → r_arrange_12 N rec2 n σ x1 x2 = some r → W p l e { frames := 0, cells := 0, slots := 0, locals := 0 } s m args below meth c H locs 0 0 (MQ below (va_Qv (fun (_ : Unit) => True) (fun _ t => PostW D (TYs k) A (mW k g r) t) A) args s 0 0 A) (F0 m 12 ls []) := by
  induction n with
  | zero => intro ls H locs σ x1 x2 hl h hm; cases (show none = some r from hm)
  | succ n hrec12 =>
    intro ls H locs σ x1 x2 hl h hm
    rw [r_arrange_12] at hm
    refine lv_iload_n C.1 C.2.1 dX12_arrange_12 rfl (lv_at hl 2 rfl) ?_
    obtain ⟨g4, hm⟩ := grd_s hm
    refine z_if_le (tgt := 82) C dX12_arrange_13 (by decide) g4 (fun c5 => ?_) (fun c5 => ?_)
    · have hm := ite_f c5 hm
      exact lm_arrange_82 (N := N) C hr hlk hrec2 (lv_sub hl [0, 1, 2] rfl) h hm
    · have hm := ite_t c5 hm
      refine lv_aload_n C.1 C.2.1 dX12_arrange_16 rfl (lv_at hl 0 rfl) ?_
      refine fg_142 C h dX12_arrange_17 ?_
      refine lv_aload_n C.1 C.2.1 dX12_arrange_20 rfl (lv_at hl 0 rfl) ?_
      refine fg_148 C h dX12_arrange_21 ?_
      refine lv_iload_n C.1 C.2.1 dX12_arrange_24 rfl (lv_at hl 2 rfl) ?_
      refine lv_iconst (v := Int32.ofInt 1) C.1 C.2.1 dX12_arrange_25 (by decide) ?_
      refine z_isub C dX12_arrange_26 ?_
      obtain ⟨g6, hm⟩ := grd_s hm
      refine al_1 C h dX12_arrange_27 g6 ?_
      obtain ⟨g7, hm⟩ := grd_s hm
      refine al_7 C h dX12_arrange_28 g7 ?_
      refine lv_aload_n C.1 C.2.1 dX12_arrange_29 rfl (lv_at hl 0 rfl) ?_
      refine fg_141 C h dX12_arrange_30 ?_
      refine lv_iload_n C.1 C.2.1 dX12_arrange_33 rfl (lv_at hl 1 rfl) ?_
      obtain ⟨g8, hm⟩ := grd_s hm
      refine al_8 C h dX12_arrange_34 g8 ?_
      obtain ⟨g9, hm⟩ := grd_s hm
      refine z_i2l C dX12_arrange_35 g9 ?_
      refine z_lmul C dX12_arrange_36 ?_
      refine lv_aload_n C.1 C.2.1 dX12_arrange_37 rfl (lv_at hl 0 rfl) ?_
      refine fg_142 C h dX12_arrange_38 ?_
      refine lv_iload_n C.1 C.2.1 dX12_arrange_41 rfl (lv_at hl 1 rfl) ?_
      refine al_7 C h dX12_arrange_42 g8 ?_
      refine lv_aload_n C.1 C.2.1 dX12_arrange_43 rfl (lv_at hl 0 rfl) ?_
      refine fg_141 C h dX12_arrange_44 ?_
      refine lv_aload_n C.1 C.2.1 dX12_arrange_47 rfl (lv_at hl 0 rfl) ?_
      refine fg_148 C h dX12_arrange_48 ?_
      refine lv_iload_n C.1 C.2.1 dX12_arrange_51 rfl (lv_at hl 2 rfl) ?_
      refine lv_iconst (v := Int32.ofInt 1) C.1 C.2.1 dX12_arrange_52 (by decide) ?_
      refine z_isub C dX12_arrange_53 ?_
      refine al_1 C h dX12_arrange_54 g6 ?_
      refine al_8 C h dX12_arrange_55 g7 ?_
      obtain ⟨g10, hm⟩ := grd_s hm
      refine z_i2l C dX12_arrange_56 g10 ?_
      refine z_lmul C dX12_arrange_57 ?_
      obtain ⟨g11, hm⟩ := grd_s hm
      obtain ⟨g12, hm⟩ := grd_s hm
      refine W.lcmp C.1 C.2.1 dX12_arrange_58 ?_
      refine z_lcmp_le (tgt := 82) C dX12_arrange_59 (by decide) g11 g12 (fun c13 => ?_) (fun c13 => ?_)
      · have hm := ite_f c13 hm
        exact lm_arrange_82 (N := N) C hr hlk hrec2 (lv_sub hl [0, 1, 2] rfl) h hm
      · have hm := ite_t c13 hm
        refine lv_aload_n C.1 C.2.1 dX12_arrange_62 rfl (lv_at hl 0 rfl) ?_
        refine fg_148 C h dX12_arrange_63 ?_
        refine lv_iload_n C.1 C.2.1 dX12_arrange_66 rfl (lv_at hl 2 rfl) ?_
        refine lv_aload_n C.1 C.2.1 dX12_arrange_67 rfl (lv_at hl 0 rfl) ?_
        refine fg_148 C h dX12_arrange_68 ?_
        refine lv_iload_n C.1 C.2.1 dX12_arrange_71 rfl (lv_at hl 2 rfl) ?_
        refine lv_iconst (v := Int32.ofInt 1) C.1 C.2.1 dX12_arrange_72 (by decide) ?_
        refine z_isub C dX12_arrange_73 ?_
        refine al_1 C h dX12_arrange_74 g6 ?_
        obtain ⟨g14, hm⟩ := grd_s hm
        refine as_1 C h dX12_arrange_75 g14 (fun H locs h => ?_)
        refine lv_iinc (v := Int32.ofInt (x2 + (-1))) (lv' := [(2, .int (Int32.ofInt (x2 + (-1)))), (0, .ref (g 0)), (1, .int (Int32.ofInt x1))]) C.1 C.2.1 dX12_arrange_76 hl (k := 2) rfl (c32_add _ _) (by decide) rfl (fun ls hl => ?_)
        refine lv_goto (tgt := 12) C.1 C.2.1 dX12_arrange_79 (by decide) ?_
        exact hrec12 (lv_sub hl [1, 2, 0] rfl) h hm
set_option maxHeartbeats 4000000 in
set_option maxRecDepth 100000 in
theorem lm_arrange_2 {r : St} (C : Cx p s m args c cX12_arrange RX12 (cd :: rW) D (TYs k) 3) (hr : meth.sig.returnType = none) (hlk : meth.locks = false)  (n : Nat) : ∀ {ls : Array Slot} {H : Heap} {locs : List Loc} {σ : St} {x1 : Int}, lv_has ls 3 [(0, .ref (g 0)), (1, .int (Int32.ofInt x1))] → Hp D A s.heap H locs (mW k g σ) → r_arrange_2 N  n σ x1 = some r → W p l e { frames := 0, cells := 0, slots := 0, locals := 0 } s m args below meth c H locs 0 0 (MQ below (va_Qv (fun (_ : Unit) => True) (fun _ t => PostW D (TYs k) A (mW k g r) t) A) args s 0 0 A) (F0 m 2 ls []) := by
  induction n with
  | zero => intro ls H locs σ x1 hl h hm; cases (show none = some r from hm)
  | succ n hrec2 =>
    intro ls H locs σ x1 hl h hm
    rw [r_arrange_2] at hm
    refine lv_iload_n C.1 C.2.1 dX12_arrange_2 rfl (lv_at hl 1 rfl) ?_
    refine lv_aload_n C.1 C.2.1 dX12_arrange_3 rfl (lv_at hl 0 rfl) ?_
    refine fg_139 C h dX12_arrange_4 ?_
    obtain ⟨g1, hm⟩ := grd_s hm
    obtain ⟨g2, hm⟩ := grd_s hm
    refine z_icmp_ge (tgt := 95) C dX12_arrange_7 (by decide) g1 g2 (fun c3 => ?_) (fun c3 => ?_)
    · have hm := ite_f c3 hm
      cases hm
      exact q_vret C h hr hlk dX12_arrange_95
    · have hm := ite_t c3 hm
      refine lv_iload_n C.1 C.2.1 dX12_arrange_10 rfl (lv_at hl 1 rfl) ?_
      refine lv_istore_n (lv' := [(2, .int (Int32.ofInt x1)), (0, .ref (g 0)), (1, .int (Int32.ofInt x1))]) C.1 C.2.1 dX12_arrange_11 rfl hl (by decide) rfl (fun ls hl => ?_)
      exact lm_arrange_12 (N := N) C hr hlk hrec2 N (lv_sub hl [1, 2, 0] rfl) h hm
set_option maxHeartbeats 4000000 in
set_option maxRecDepth 100000 in
theorem rc_arrange (l : Launch) (D : va_G) (k : Nat → ClassId) (g : Nat → Nat) (N : Nat) (σ : St)  (r : St) (hm : r_arrange N σ  = some r) : Mv l yX12_arrange (.code yX12_arrange cX12_arrange 3 none :: rW) { frames := 0, cells := 0, slots := 0, locals := 0 } [.ref (g 0)] D (TYs k) (mW k g σ) (fun _ => True) Unit (fun _ => True) (fun _ => mW k g r) 0 0 := by
  intro sz
  refine x_met (cc := cX12_arrange) (maxL := 3) (ret := none) (by decide) rfl (Nat.le_of_ble_eq_true rfl) ?_
  intro p e s m below meth c ls C hX hsz hr hlk hmn hl h
  have hl : lv_has ls 3 [(0, .ref (g 0))] := hl
  rw [r_arrange] at hm
  refine lv_iconst (v := Int32.ofInt 0) C.1 C.2.1 dX12_arrange_0 (by decide) ?_
  refine lv_istore_n (lv' := [(1, .int (Int32.ofInt 0)), (0, .ref (g 0))]) C.1 C.2.1 dX12_arrange_1 rfl hl (by decide) rfl (fun ls hl => ?_)
  exact lm_arrange_2 (N := N) C hr hlk  N (lv_sub hl [1, 0] rfl) h hm
end L_arrange
section L_hear
variable {p : Program} {l : Launch} {e : Env} {s : State} {m : MethodId} {args : Array Value} {below : List Frame} {meth : Method} {c : Code} {D : va_G} {A : Nat → Prop} {k : Nat → ClassId} {g : Nat → Nat} {N : Nat} {cd : Cond}
set_option maxHeartbeats 4000000 in
set_option maxRecDepth 100000 in
theorem rc_hear (l : Launch) (D : va_G) (k : Nat → ClassId) (g : Nat → Nat) (N : Nat) (σ : St) (x1 : Int) (r : St) (hm : r_hear N σ x1 = some r) : Mv l yX12_hear (.code yX12_hear cX12_hear 2 none :: rW) { frames := 0, cells := 0, slots := 0, locals := 0 } [.ref (g 0), .int (Int32.ofInt x1)] D (TYs k) (mW k g σ) (fun _ => True) Unit (fun _ => True) (fun _ => mW k g r) 0 0 := by
  intro sz
  refine x_met (cc := cX12_hear) (maxL := 2) (ret := none) (by decide) rfl (Nat.le_of_ble_eq_true rfl) ?_
  intro p e s m below meth c ls C hX hsz hr hlk hmn hl h
  have hl : lv_has ls 2 [(0, .ref (g 0)), (1, .int (Int32.ofInt x1))] := hl
  rw [r_hear] at hm
  refine lv_aload_n C.1 C.2.1 dX12_hear_0 rfl (lv_at hl 0 rfl) ?_
  refine fg_130 C h dX12_hear_1 ?_
  refine lv_aload_n C.1 C.2.1 dX12_hear_4 rfl (lv_at hl 0 rfl) ?_
  refine fg_129 C h dX12_hear_5 ?_
  refine lv_aload_n C.1 C.2.1 dX12_hear_8 rfl (lv_at hl 0 rfl) ?_
  refine fg_140 C h dX12_hear_9 ?_
  refine lv_iload_n C.1 C.2.1 dX12_hear_12 rfl (lv_at hl 1 rfl) ?_
  obtain ⟨g1, hm⟩ := grd_s hm
  refine al_9 C h dX12_hear_13 g1 ?_
  obtain ⟨g2, hm⟩ := grd_s hm
  refine as_18 C h dX12_hear_14 g2 (fun H locs h => ?_)
  refine lv_aload_n C.1 C.2.1 dX12_hear_15 rfl (lv_at hl 0 rfl) ?_
  refine fg_131 C h dX12_hear_16 ?_
  refine lv_aload_n C.1 C.2.1 dX12_hear_19 rfl (lv_at hl 0 rfl) ?_
  refine fg_129 C h dX12_hear_20 ?_
  refine x_topi (y := Int32.ofInt (fl σ 129 0)) rfl ?_
  refine lv_aload_n C.1 C.2.1 dX12_hear_23 rfl (lv_at hl 0 rfl) ?_
  refine fg_115 C h dX12_hear_24 ?_
  refine x_topi (y := Int32.ofInt (fl σ 115 0)) rfl ?_
  refine as_17 C h dX12_hear_27 g2 (fun H locs h => ?_)
  refine lv_aload_n C.1 C.2.1 dX12_hear_28 rfl (lv_at hl 0 rfl) ?_
  refine fg_132 C h dX12_hear_29 ?_
  refine lv_aload_n C.1 C.2.1 dX12_hear_32 rfl (lv_at hl 0 rfl) ?_
  refine fg_129 C h dX12_hear_33 ?_
  refine x_topi (y := Int32.ofInt (fl σ 129 0)) rfl ?_
  refine lv_aload_n C.1 C.2.1 dX12_hear_36 rfl (lv_at hl 0 rfl) ?_
  refine fg_141 C h dX12_hear_37 ?_
  refine lv_iload_n C.1 C.2.1 dX12_hear_40 rfl (lv_at hl 1 rfl) ?_
  refine al_8 C h dX12_hear_41 g1 ?_
  refine x_topi (y := Int32.ofInt (el σ 8 x1)) rfl ?_
  refine as_16 C h dX12_hear_42 g2 (fun H locs h => ?_)
  refine lv_aload_n C.1 C.2.1 dX12_hear_43 rfl (lv_at hl 0 rfl) ?_
  refine fg_133 C h dX12_hear_44 ?_
  refine lv_aload_n C.1 C.2.1 dX12_hear_47 rfl (lv_at hl 0 rfl) ?_
  refine fg_129 C h dX12_hear_48 ?_
  refine x_topi (y := Int32.ofInt (fl σ 129 0)) rfl ?_
  refine lv_aload_n C.1 C.2.1 dX12_hear_51 rfl (lv_at hl 0 rfl) ?_
  refine fg_142 C h dX12_hear_52 ?_
  refine lv_iload_n C.1 C.2.1 dX12_hear_55 rfl (lv_at hl 1 rfl) ?_
  refine al_7 C h dX12_hear_56 g1 ?_
  refine x_topl (y := Int64.ofInt (el σ 7 x1)) rfl ?_
  refine as_15 C h dX12_hear_57 g2 (fun H locs h => ?_)
  refine lv_aload_n C.1 C.2.1 dX12_hear_58 rfl (lv_at hl 0 rfl) ?_
  refine fg_134 C h dX12_hear_59 ?_
  refine lv_aload_n C.1 C.2.1 dX12_hear_62 rfl (lv_at hl 0 rfl) ?_
  refine fg_129 C h dX12_hear_63 ?_
  refine x_topi (y := Int32.ofInt (fl σ 129 0)) rfl ?_
  refine lv_aload_n C.1 C.2.1 dX12_hear_66 rfl (lv_at hl 0 rfl) ?_
  refine fg_143 C h dX12_hear_67 ?_
  refine lv_iload_n C.1 C.2.1 dX12_hear_70 rfl (lv_at hl 1 rfl) ?_
  refine al_6 C h dX12_hear_71 g1 ?_
  refine x_topl (y := Int64.ofInt (el σ 6 x1)) rfl ?_
  refine as_14 C h dX12_hear_72 g2 (fun H locs h => ?_)
  refine lv_aload_n C.1 C.2.1 dX12_hear_73 rfl (lv_at hl 0 rfl) ?_
  refine fg_135 C h dX12_hear_74 ?_
  refine lv_aload_n C.1 C.2.1 dX12_hear_77 rfl (lv_at hl 0 rfl) ?_
  refine fg_129 C h dX12_hear_78 ?_
  refine x_topi (y := Int32.ofInt (fl σ 129 0)) rfl ?_
  refine lv_aload_n C.1 C.2.1 dX12_hear_81 rfl (lv_at hl 0 rfl) ?_
  refine fg_144 C h dX12_hear_82 ?_
  refine lv_iload_n C.1 C.2.1 dX12_hear_85 rfl (lv_at hl 1 rfl) ?_
  refine al_5 C h dX12_hear_86 g1 ?_
  refine x_topi (y := Int32.ofInt (el σ 5 x1)) rfl ?_
  refine as_13 C h dX12_hear_87 g2 (fun H locs h => ?_)
  refine lv_aload_n C.1 C.2.1 dX12_hear_88 rfl (lv_at hl 0 rfl) ?_
  refine fg_136 C h dX12_hear_89 ?_
  refine lv_aload_n C.1 C.2.1 dX12_hear_92 rfl (lv_at hl 0 rfl) ?_
  refine fg_129 C h dX12_hear_93 ?_
  refine x_topi (y := Int32.ofInt (fl σ 129 0)) rfl ?_
  refine lv_aload_n C.1 C.2.1 dX12_hear_96 rfl (lv_at hl 0 rfl) ?_
  refine fg_145 C h dX12_hear_97 ?_
  refine lv_iload_n C.1 C.2.1 dX12_hear_100 rfl (lv_at hl 1 rfl) ?_
  refine al_4 C h dX12_hear_101 g1 ?_
  refine x_topi (y := Int32.ofInt (el σ 4 x1)) rfl ?_
  refine as_12 C h dX12_hear_102 g2 (fun H locs h => ?_)
  refine lv_aload_n C.1 C.2.1 dX12_hear_103 rfl (lv_at hl 0 rfl) ?_
  refine fg_137 C h dX12_hear_104 ?_
  refine lv_aload_n C.1 C.2.1 dX12_hear_107 rfl (lv_at hl 0 rfl) ?_
  refine fg_129 C h dX12_hear_108 ?_
  refine x_topi (y := Int32.ofInt (fl σ 129 0)) rfl ?_
  refine lv_aload_n C.1 C.2.1 dX12_hear_111 rfl (lv_at hl 0 rfl) ?_
  refine fg_146 C h dX12_hear_112 ?_
  refine lv_iload_n C.1 C.2.1 dX12_hear_115 rfl (lv_at hl 1 rfl) ?_
  refine al_3 C h dX12_hear_116 g1 ?_
  refine x_topi (y := Int32.ofInt (el σ 3 x1)) rfl ?_
  refine as_11 C h dX12_hear_117 g2 (fun H locs h => ?_)
  refine lv_aload_n C.1 C.2.1 dX12_hear_118 rfl (lv_at hl 0 rfl) ?_
  refine fg_138 C h dX12_hear_119 ?_
  refine lv_aload_n C.1 C.2.1 dX12_hear_122 rfl (lv_at hl 0 rfl) ?_
  refine fg_129 C h dX12_hear_123 ?_
  refine x_topi (y := Int32.ofInt (fl σ 129 0)) rfl ?_
  refine lv_aload_n C.1 C.2.1 dX12_hear_126 rfl (lv_at hl 0 rfl) ?_
  refine fg_147 C h dX12_hear_127 ?_
  refine lv_iload_n C.1 C.2.1 dX12_hear_130 rfl (lv_at hl 1 rfl) ?_
  refine al_2 C h dX12_hear_131 g1 ?_
  refine x_topi (y := Int32.ofInt (el σ 2 x1)) rfl ?_
  refine as_10 C h dX12_hear_132 g2 (fun H locs h => ?_)
  refine lv_aload_n C.1 C.2.1 dX12_hear_133 rfl (lv_at hl 0 rfl) ?_
  refine lv_dup C.1 C.2.1 dX12_hear_134 rfl ?_
  refine fg_129 C h dX12_hear_135 ?_
  refine x_topi (y := Int32.ofInt (fl σ 129 0)) rfl ?_
  refine lv_iconst (v := Int32.ofInt 1) C.1 C.2.1 dX12_hear_138 (by decide) ?_
  refine z_iadd C dX12_hear_139 ?_
  refine fp_129 C h dX12_hear_140 (fun H locs h => ?_)
  cases hm
  exact q_vret C h hr hlk dX12_hear_143
end L_hear
section L_beat
variable {p : Program} {l : Launch} {e : Env} {s : State} {m : MethodId} {args : Array Value} {below : List Frame} {meth : Method} {c : Code} {D : va_G} {A : Nat → Prop} {k : Nat → ClassId} {g : Nat → Nat} {N : Nat} {cd : Cond}
set_option maxHeartbeats 4000000 in
set_option maxRecDepth 100000 in
theorem lm_beat_275 {r : St × Int} (C : Cx p s m args c cX12_beat RX12 (cd :: rW) D (TYs k) 8) (hr : meth.sig.returnType = (some .int)) (hlk : meth.locks = false) {rec7 : St → Int → Int → Int → Option (St × Int)} (hrec7 : ∀ {ls : Array Slot} {H : Heap} {locs : List Loc} {σ : St} {x1 : Int} {x2 : Int} {x3 : Int}, lv_has ls 8 [(0, .ref (g 0)), (1, .int (Int32.ofInt x1)), (2, .int (Int32.ofInt x2)), (3, .int (Int32.ofInt x3))] → Hp D A s.heap H locs (mW k g σ) → rec7 σ x1 x2 x3 = some r → W p l e { frames := 6, cells := 0, slots := 0, locals := 153 } s m args below meth c H locs 0 0 (MQ below (va_Qi (fun v (_ : Unit) => v = Int32.ofInt r.2) (fun _ t => PostW D (TYs k) A (mW k g r.1) t) A) args s 0 0 A) (F0 m 7 ls [])) {ls : Array Slot} {H : Heap} {locs : List Loc} {σ : St} {x1 : Int} {x2 : Int} {x3 : Int} (hl : lv_has ls 8 [(0, .ref (g 0)), (1, .int (Int32.ofInt x1)), (2, .int (Int32.ofInt x2)), (3, .int (Int32.ofInt x3))]) (h : Hp D A s.heap H locs (mW k g σ)) (hm : r_beat_275 N rec7 σ x1 x2 x3 = some r) : W p l e { frames := 6, cells := 0, slots := 0, locals := 153 } s m args below meth c H locs 0 0 (MQ below (va_Qi (fun v (_ : Unit) => v = Int32.ofInt r.2) (fun _ t => PostW D (TYs k) A (mW k g r.1) t) A) args s 0 0 A) (F0 m 275 ls []) := by
  rw [r_beat_275] at hm
  refine lv_iinc (v := Int32.ofInt (x3 + 1)) (lv' := [(3, .int (Int32.ofInt (x3 + 1))), (0, .ref (g 0)), (1, .int (Int32.ofInt x1)), (2, .int (Int32.ofInt x2))]) C.1 C.2.1 dX12_beat_275 hl (k := 3) rfl (c32_add _ _) (by decide) rfl (fun ls hl => ?_)
  refine lv_goto (tgt := 7) C.1 C.2.1 dX12_beat_278 (by decide) ?_
  exact hrec7 (lv_sub hl [1, 2, 3, 0] rfl) h hm
set_option maxHeartbeats 4000000 in
set_option maxRecDepth 100000 in
theorem lm_beat_269 {r : St × Int} (C : Cx p s m args c cX12_beat RX12 (cd :: rW) D (TYs k) 8) (hr : meth.sig.returnType = (some .int)) (hlk : meth.locks = false) {rec7 : St → Int → Int → Int → Option (St × Int)} (hrec7 : ∀ {ls : Array Slot} {H : Heap} {locs : List Loc} {σ : St} {x1 : Int} {x2 : Int} {x3 : Int}, lv_has ls 8 [(0, .ref (g 0)), (1, .int (Int32.ofInt x1)), (2, .int (Int32.ofInt x2)), (3, .int (Int32.ofInt x3))] → Hp D A s.heap H locs (mW k g σ) → rec7 σ x1 x2 x3 = some r → W p l e { frames := 6, cells := 0, slots := 0, locals := 153 } s m args below meth c H locs 0 0 (MQ below (va_Qi (fun v (_ : Unit) => v = Int32.ofInt r.2) (fun _ t => PostW D (TYs k) A (mW k g r.1) t) A) args s 0 0 A) (F0 m 7 ls [])) {rec56 : St → Int → Int → Int → Int → Int → Option (St × Int)} (hrec56 : ∀ {ls : Array Slot} {H : Heap} {locs : List Loc} {σ : St} {x1 : Int} {x2 : Int} {x3 : Int} {x4 : Int} {x5 : Int}, lv_has ls 8 [(0, .ref (g 0)), (1, .int (Int32.ofInt x1)), (2, .int (Int32.ofInt x2)), (3, .int (Int32.ofInt x3)), (4, .int (Int32.ofInt x4)), (5, .int (Int32.ofInt x5))] → Hp D A s.heap H locs (mW k g σ) → rec56 σ x1 x2 x3 x4 x5 = some r → W p l e { frames := 6, cells := 0, slots := 0, locals := 153 } s m args below meth c H locs 0 0 (MQ below (va_Qi (fun v (_ : Unit) => v = Int32.ofInt r.2) (fun _ t => PostW D (TYs k) A (mW k g r.1) t) A) args s 0 0 A) (F0 m 56 ls [])) {ls : Array Slot} {H : Heap} {locs : List Loc} {σ : St} {x1 : Int} {x2 : Int} {x3 : Int} {x4 : Int} {x5 : Int} (hl : lv_has ls 8 [(0, .ref (g 0)), (1, .int (Int32.ofInt x1)), (2, .int (Int32.ofInt x2)), (3, .int (Int32.ofInt x3)), (4, .int (Int32.ofInt x4)), (5, .int (Int32.ofInt x5))]) (h : Hp D A s.heap H locs (mW k g σ)) (hm : r_beat_269 N rec7 rec56 σ x1 x2 x3 x4 x5 = some r) : W p l e { frames := 6, cells := 0, slots := 0, locals := 153 } s m args below meth c H locs 0 0 (MQ below (va_Qi (fun v (_ : Unit) => v = Int32.ofInt r.2) (fun _ t => PostW D (TYs k) A (mW k g r.1) t) A) args s 0 0 A) (F0 m 269 ls []) := by
  rw [r_beat_269] at hm
  refine lv_iinc (v := Int32.ofInt (x5 + 1)) (lv' := [(5, .int (Int32.ofInt (x5 + 1))), (0, .ref (g 0)), (1, .int (Int32.ofInt x1)), (2, .int (Int32.ofInt x2)), (3, .int (Int32.ofInt x3)), (4, .int (Int32.ofInt x4))]) C.1 C.2.1 dX12_beat_269 hl (k := 5) rfl (c32_add _ _) (by decide) rfl (fun ls hl => ?_)
  refine lv_goto (tgt := 56) C.1 C.2.1 dX12_beat_272 (by decide) ?_
  exact hrec56 (lv_sub hl [1, 2, 3, 4, 5, 0] rfl) h hm
set_option maxHeartbeats 4000000 in
set_option maxRecDepth 100000 in
theorem lm_beat_56 {r : St × Int} (C : Cx p s m args c cX12_beat RX12 (cd :: rW) D (TYs k) 8) (hr : meth.sig.returnType = (some .int)) (hlk : meth.locks = false) {rec7 : St → Int → Int → Int → Option (St × Int)} (hrec7 : ∀ {ls : Array Slot} {H : Heap} {locs : List Loc} {σ : St} {x1 : Int} {x2 : Int} {x3 : Int}, lv_has ls 8 [(0, .ref (g 0)), (1, .int (Int32.ofInt x1)), (2, .int (Int32.ofInt x2)), (3, .int (Int32.ofInt x3))] → Hp D A s.heap H locs (mW k g σ) → rec7 σ x1 x2 x3 = some r → W p l e { frames := 6, cells := 0, slots := 0, locals := 153 } s m args below meth c H locs 0 0 (MQ below (va_Qi (fun v (_ : Unit) => v = Int32.ofInt r.2) (fun _ t => PostW D (TYs k) A (mW k g r.1) t) A) args s 0 0 A) (F0 m 7 ls [])) (n : Nat) : ∀ {ls : Array Slot} {H : Heap} {locs : List Loc} {σ : St} {x1 : Int} {x2 : Int} {x3 : Int} {x4 : Int} {x5 : Int}, lv_has ls 8 [(0, .ref (g 0)), (1, .int (Int32.ofInt x1)), (2, .int (Int32.ofInt x2)), (3, .int (Int32.ofInt x3)), (4, .int (Int32.ofInt x4)), (5, .int (Int32.ofInt x5))] → Hp D A s.heap H locs (mW k g σ) → r_beat_56 N rec7 n σ x1 x2 x3 x4 x5 = some r → W p l e { frames := 6, cells := 0, slots := 0, locals := 153 } s m args below meth c H locs 0 0 (MQ below (va_Qi (fun v (_ : Unit) => v = Int32.ofInt r.2) (fun _ t => PostW D (TYs k) A (mW k g r.1) t) A) args s 0 0 A) (F0 m 56 ls []) := by
  induction n with
  | zero => intro ls H locs σ x1 x2 x3 x4 x5 hl h hm; cases (show none = some r from hm)
  | succ n hrec56 =>
    intro ls H locs σ x1 x2 x3 x4 x5 hl h hm
    rw [r_beat_56] at hm
    refine lv_iload C.1 C.2.1 dX12_beat_56 (lv_at hl 5 rfl) ?_
    refine lv_aload_n C.1 C.2.1 dX12_beat_58 rfl (lv_at hl 0 rfl) ?_
    refine fg_84 C h dX12_beat_59 ?_
    obtain ⟨g25, hm⟩ := grd_s hm
    obtain ⟨g26, hm⟩ := grd_s hm
    refine z_icmp_ge (tgt := 275) C dX12_beat_62 (by decide) g25 g26 (fun c27 => ?_) (fun c27 => ?_)
    · have hm := ite_f c27 hm
      exact lm_beat_275 (N := N) C hr hlk hrec7 (lv_sub hl [0, 1, 2, 3] rfl) h hm
    · have hm := ite_t c27 hm
      refine lv_aload_n C.1 C.2.1 dX12_beat_65 rfl (lv_at hl 0 rfl) ?_
      refine fg_85 C h dX12_beat_66 ?_
      refine lv_iload C.1 C.2.1 dX12_beat_69 (lv_at hl 5 rfl) ?_
      obtain ⟨g28, hm⟩ := grd_s hm
      refine al_52 C h dX12_beat_71 g28 ?_
      refine lv_aload_n C.1 C.2.1 dX12_beat_72 rfl (lv_at hl 0 rfl) ?_
      refine fg_115 C h dX12_beat_73 ?_
      obtain ⟨g29, hm⟩ := grd_s hm
      refine z_i2l C dX12_beat_76 g29 ?_
      refine lv_aload_n C.1 C.2.1 dX12_beat_77 rfl (lv_at hl 0 rfl) ?_
      refine fg_56 C h dX12_beat_78 ?_
      refine lv_iload C.1 C.2.1 dX12_beat_81 (lv_at hl 4 rfl) ?_
      obtain ⟨g30, hm⟩ := grd_s hm
      refine al_63 C h dX12_beat_83 g30 ?_
      obtain ⟨g31, hm⟩ := grd_s hm
      refine z_i2l C dX12_beat_84 g31 ?_
      refine z_lmul C dX12_beat_85 ?_
      refine z_lsub C dX12_beat_86 ?_
      obtain ⟨v32, e33, hm⟩ := bnd_s hm
      rw [e33]
      refine lv_lstore (lv' := [(6, .long (Int64.ofInt v32)), (0, .ref (g 0)), (1, .int (Int32.ofInt x1)), (2, .int (Int32.ofInt x2)), (3, .int (Int32.ofInt x3)), (4, .int (Int32.ofInt x4)), (5, .int (Int32.ofInt x5))]) C.1 C.2.1 dX12_beat_87 hl (by decide) rfl (fun ls hl => ?_)
      refine lv_lload C.1 C.2.1 dX12_beat_89 (lv_at hl 0 rfl) ?_
      refine lv_ldc2 (v := 960) C.1 C.2.1 C.2.2.2.1 (C.2.2.1 _ (List.mem_cons_of_mem _ wk_882)) dX12_beat_91 ?_
      refine x_topl (y := Int64.ofInt 960) (by decide) ?_
      refine z_lmul C dX12_beat_94 ?_
      refine lv_iload_n C.1 C.2.1 dX12_beat_95 rfl (lv_at hl 2 rfl) ?_
      obtain ⟨g34, hm⟩ := grd_s hm
      refine z_i2l C dX12_beat_96 g34 ?_
      refine lv_aload_n C.1 C.2.1 dX12_beat_97 rfl (lv_at hl 1 rfl) ?_
      refine fg_56 C h dX12_beat_98 ?_
      refine lv_iload C.1 C.2.1 dX12_beat_101 (lv_at hl 5 rfl) ?_
      refine al_63 C h dX12_beat_103 g30 ?_
      refine z_i2l C dX12_beat_104 g31 ?_
      refine z_lmul C dX12_beat_105 ?_
      obtain ⟨g35, hm⟩ := grd_s hm
      obtain ⟨g36, hm⟩ := grd_s hm
      refine W.lcmp C.1 C.2.1 dX12_beat_106 ?_
      refine z_lcmp_lt (tgt := 269) C dX12_beat_107 (by decide) g35 g36 (fun c37 => ?_) (fun c37 => ?_)
      · have hm := ite_t c37 hm
        exact lm_beat_269 (N := N) C hr hlk hrec7 hrec56 (lv_sub hl [1, 2, 3, 4, 5, 6] rfl) h hm
      · have hm := ite_f c37 hm
        refine lv_lload C.1 C.2.1 dX12_beat_110 (lv_at hl 0 rfl) ?_
        refine lv_ldc2 (v := 960) C.1 C.2.1 C.2.2.2.1 (C.2.2.1 _ (List.mem_cons_of_mem _ wk_882)) dX12_beat_112 ?_
        refine x_topl (y := Int64.ofInt 960) (by decide) ?_
        refine z_lmul C dX12_beat_115 ?_
        refine lv_iload_n C.1 C.2.1 dX12_beat_116 rfl (lv_at hl 3 rfl) ?_
        obtain ⟨g38, hm⟩ := grd_s hm
        refine z_i2l C dX12_beat_117 g38 ?_
        refine lv_aload_n C.1 C.2.1 dX12_beat_118 rfl (lv_at hl 1 rfl) ?_
        refine fg_56 C h dX12_beat_119 ?_
        refine lv_iload C.1 C.2.1 dX12_beat_122 (lv_at hl 5 rfl) ?_
        refine al_63 C h dX12_beat_124 g30 ?_
        refine z_i2l C dX12_beat_125 g31 ?_
        refine z_lmul C dX12_beat_126 ?_
        obtain ⟨g39, hm⟩ := grd_s hm
        refine W.lcmp C.1 C.2.1 dX12_beat_127 ?_
        refine z_lcmp_lt (tgt := 134) C dX12_beat_128 (by decide) g35 g39 (fun c40 => ?_) (fun c40 => ?_)
        · have hm := ite_t c40 hm
          refine lv_aload_n C.1 C.2.1 dX12_beat_134 rfl (lv_at hl 1 rfl) ?_
          refine fg_140 C h dX12_beat_135 ?_
          refine lv_aload_n C.1 C.2.1 dX12_beat_138 rfl (lv_at hl 1 rfl) ?_
          refine fg_139 C h dX12_beat_139 ?_
          refine lv_iload_n C.1 C.2.1 dX12_beat_142 rfl (lv_at hl 4 rfl) ?_
          obtain ⟨g41, hm⟩ := grd_s hm
          refine as_9 C h dX12_beat_143 g41 (fun H locs h => ?_)
          refine lv_aload_n C.1 C.2.1 dX12_beat_144 rfl (lv_at hl 1 rfl) ?_
          refine fg_141 C h dX12_beat_145 ?_
          refine lv_aload_n C.1 C.2.1 dX12_beat_148 rfl (lv_at hl 1 rfl) ?_
          refine fg_139 C h dX12_beat_149 ?_
          refine x_topi (y := Int32.ofInt (fl σ 139 0)) rfl ?_
          refine lv_aload_n C.1 C.2.1 dX12_beat_152 rfl (lv_at hl 1 rfl) ?_
          refine fg_56 C h dX12_beat_153 ?_
          refine lv_iload C.1 C.2.1 dX12_beat_156 (lv_at hl 5 rfl) ?_
          refine al_63 C h dX12_beat_158 g30 ?_
          refine x_topi (y := Int32.ofInt (el σ 63 x4)) rfl ?_
          refine as_8 C h dX12_beat_159 g41 (fun H locs h => ?_)
          refine lv_aload_n C.1 C.2.1 dX12_beat_160 rfl (lv_at hl 1 rfl) ?_
          refine fg_142 C h dX12_beat_161 ?_
          refine lv_aload_n C.1 C.2.1 dX12_beat_164 rfl (lv_at hl 1 rfl) ?_
          refine fg_139 C h dX12_beat_165 ?_
          refine x_topi (y := Int32.ofInt (fl σ 139 0)) rfl ?_
          refine lv_lload C.1 C.2.1 dX12_beat_168 (lv_at hl 0 rfl) ?_
          refine as_7 C h dX12_beat_170 g41 (fun H locs h => ?_)
          refine lv_aload_n C.1 C.2.1 dX12_beat_171 rfl (lv_at hl 1 rfl) ?_
          refine fg_143 C h dX12_beat_172 ?_
          refine lv_aload_n C.1 C.2.1 dX12_beat_175 rfl (lv_at hl 1 rfl) ?_
          refine fg_139 C h dX12_beat_176 ?_
          refine x_topi (y := Int32.ofInt (fl σ 139 0)) rfl ?_
          refine lv_aload_n C.1 C.2.1 dX12_beat_179 rfl (lv_at hl 1 rfl) ?_
          refine fg_86 C h dX12_beat_180 ?_
          refine lv_iload C.1 C.2.1 dX12_beat_183 (lv_at hl 6 rfl) ?_
          refine al_51 C h dX12_beat_185 g28 ?_
          refine x_topl (y := Int64.ofInt (el σ 51 x5)) rfl ?_
          refine lv_aload_n C.1 C.2.1 dX12_beat_186 rfl (lv_at hl 1 rfl) ?_
          refine fg_85 C h dX12_beat_187 ?_
          refine lv_iload C.1 C.2.1 dX12_beat_190 (lv_at hl 6 rfl) ?_
          refine al_52 C h dX12_beat_192 g28 ?_
          refine x_topl (y := Int64.ofInt (el σ 52 x5)) rfl ?_
          refine z_lsub C dX12_beat_193 ?_
          refine as_6 C h dX12_beat_194 g41 (fun H locs h => ?_)
          refine lv_aload_n C.1 C.2.1 dX12_beat_195 rfl (lv_at hl 1 rfl) ?_
          refine fg_144 C h dX12_beat_196 ?_
          refine lv_aload_n C.1 C.2.1 dX12_beat_199 rfl (lv_at hl 1 rfl) ?_
          refine fg_139 C h dX12_beat_200 ?_
          refine x_topi (y := Int32.ofInt (fl σ 139 0)) rfl ?_
          refine lv_aload_n C.1 C.2.1 dX12_beat_203 rfl (lv_at hl 1 rfl) ?_
          refine fg_87 C h dX12_beat_204 ?_
          refine lv_iload C.1 C.2.1 dX12_beat_207 (lv_at hl 6 rfl) ?_
          refine al_50 C h dX12_beat_209 g28 ?_
          refine x_topi (y := Int32.ofInt (el σ 50 x5)) rfl ?_
          refine as_5 C h dX12_beat_210 g41 (fun H locs h => ?_)
          refine lv_aload_n C.1 C.2.1 dX12_beat_211 rfl (lv_at hl 1 rfl) ?_
          refine fg_145 C h dX12_beat_212 ?_
          refine lv_aload_n C.1 C.2.1 dX12_beat_215 rfl (lv_at hl 1 rfl) ?_
          refine fg_139 C h dX12_beat_216 ?_
          refine x_topi (y := Int32.ofInt (fl σ 139 0)) rfl ?_
          refine lv_aload_n C.1 C.2.1 dX12_beat_219 rfl (lv_at hl 1 rfl) ?_
          refine fg_88 C h dX12_beat_220 ?_
          refine lv_iload C.1 C.2.1 dX12_beat_223 (lv_at hl 6 rfl) ?_
          refine al_49 C h dX12_beat_225 g28 ?_
          refine x_topi (y := Int32.ofInt (el σ 49 x5)) rfl ?_
          refine as_4 C h dX12_beat_226 g41 (fun H locs h => ?_)
          refine lv_aload_n C.1 C.2.1 dX12_beat_227 rfl (lv_at hl 1 rfl) ?_
          refine fg_146 C h dX12_beat_228 ?_
          refine lv_aload_n C.1 C.2.1 dX12_beat_231 rfl (lv_at hl 1 rfl) ?_
          refine fg_139 C h dX12_beat_232 ?_
          refine x_topi (y := Int32.ofInt (fl σ 139 0)) rfl ?_
          refine lv_aload_n C.1 C.2.1 dX12_beat_235 rfl (lv_at hl 1 rfl) ?_
          refine fg_89 C h dX12_beat_236 ?_
          refine lv_iload C.1 C.2.1 dX12_beat_239 (lv_at hl 6 rfl) ?_
          refine al_48 C h dX12_beat_241 g28 ?_
          refine x_topi (y := Int32.ofInt (el σ 48 x5)) rfl ?_
          refine as_3 C h dX12_beat_242 g41 (fun H locs h => ?_)
          refine lv_aload_n C.1 C.2.1 dX12_beat_243 rfl (lv_at hl 1 rfl) ?_
          refine fg_147 C h dX12_beat_244 ?_
          refine lv_aload_n C.1 C.2.1 dX12_beat_247 rfl (lv_at hl 1 rfl) ?_
          refine fg_139 C h dX12_beat_248 ?_
          refine x_topi (y := Int32.ofInt (fl σ 139 0)) rfl ?_
          refine lv_aload_n C.1 C.2.1 dX12_beat_251 rfl (lv_at hl 1 rfl) ?_
          refine fg_90 C h dX12_beat_252 ?_
          refine lv_iload C.1 C.2.1 dX12_beat_255 (lv_at hl 6 rfl) ?_
          refine al_47 C h dX12_beat_257 g28 ?_
          refine x_topi (y := Int32.ofInt (el σ 47 x5)) rfl ?_
          refine as_2 C h dX12_beat_258 g41 (fun H locs h => ?_)
          refine lv_aload_n C.1 C.2.1 dX12_beat_259 rfl (lv_at hl 1 rfl) ?_
          refine lv_dup C.1 C.2.1 dX12_beat_260 rfl ?_
          refine fg_139 C h dX12_beat_261 ?_
          refine x_topi (y := Int32.ofInt (fl σ 139 0)) rfl ?_
          refine lv_iconst (v := Int32.ofInt 1) C.1 C.2.1 dX12_beat_264 (by decide) ?_
          refine z_iadd C dX12_beat_265 ?_
          refine fp_139 C h dX12_beat_266 (fun H locs h => ?_)
          exact lm_beat_269 (N := N) C hr hlk hrec7 hrec56 (lv_sub hl [1, 2, 3, 4, 5, 6] rfl) h hm
        · have hm := ite_f c40 hm
          refine lv_goto (tgt := 269) C.1 C.2.1 dX12_beat_131 (by decide) ?_
          exact lm_beat_269 (N := N) C hr hlk hrec7 hrec56 (lv_sub hl [1, 2, 3, 4, 5, 6] rfl) h hm
set_option maxHeartbeats 4000000 in
set_option maxRecDepth 100000 in
theorem lm_beat_321 {r : St × Int} (C : Cx p s m args c cX12_beat RX12 (cd :: rW) D (TYs k) 8) (hr : meth.sig.returnType = (some .int)) (hlk : meth.locks = false)  {ls : Array Slot} {H : Heap} {locs : List Loc} {σ : St}  (hl : lv_has ls 8 [(0, .ref (g 0))]) (h : Hp D A s.heap H locs (mW k g σ)) (hm : r_beat_321 N  σ  = some r) : W p l e { frames := 6, cells := 0, slots := 0, locals := 153 } s m args below meth c H locs 0 0 (MQ below (va_Qi (fun v (_ : Unit) => v = Int32.ofInt r.2) (fun _ t => PostW D (TYs k) A (mW k g r.1) t) A) args s 0 0 A) (F0 m 321 ls []) := by
  rw [r_beat_321] at hm
  refine lv_aload_n C.1 C.2.1 dX12_beat_321 rfl (lv_at hl 0 rfl) ?_
  refine fg_139 C h dX12_beat_322 ?_
  cases hm
  exact q_iret C h hr hlk dX12_beat_325 rfl
set_option maxHeartbeats 4000000 in
set_option maxRecDepth 100000 in
theorem lm_beat_287 {r : St × Int} (C : Cx p s m args c cX12_beat RX12 (cd :: rW) D (TYs k) 8) (hr : meth.sig.returnType = (some .int)) (hlk : meth.locks = false)  (n : Nat) : ∀ {ls : Array Slot} {H : Heap} {locs : List Loc} {σ : St} {x3 : Int}, lv_has ls 8 [(0, .ref (g 0)), (3, .int (Int32.ofInt x3))] → Hp D A s.heap H locs (mW k g σ) → r_beat_287 N  n σ x3 = some r → W p l e { frames := 6, cells := 0, slots := 0, locals := 153 } s m args below meth c H locs 0 0 (MQ below (va_Qi (fun v (_ : Unit) => v = Int32.ofInt r.2) (fun _ t => PostW D (TYs k) A (mW k g r.1) t) A) args s 0 0 A) (F0 m 287 ls []) := by
  induction n with
  | zero => intro ls H locs σ x3 hl h hm; cases (show none = some r from hm)
  | succ n hrec287 =>
    intro ls H locs σ x3 hl h hm
    rw [r_beat_287] at hm
    refine lv_iload_n C.1 C.2.1 dX12_beat_287 rfl (lv_at hl 1 rfl) ?_
    refine lv_aload_n C.1 C.2.1 dX12_beat_288 rfl (lv_at hl 0 rfl) ?_
    refine fg_139 C h dX12_beat_289 ?_
    obtain ⟨g17, hm⟩ := grd_s hm
    obtain ⟨g18, hm⟩ := grd_s hm
    refine z_icmp_ge (tgt := 321) C dX12_beat_292 (by decide) g17 g18 (fun c19 => ?_) (fun c19 => ?_)
    · have hm := ite_f c19 hm
      exact lm_beat_321 (N := N) C hr hlk  (lv_sub hl [0] rfl) h hm
    · have hm := ite_t c19 hm
      refine lv_aload_n C.1 C.2.1 dX12_beat_295 rfl (lv_at hl 0 rfl) ?_
      refine fg_129 C h dX12_beat_296 ?_
      refine lv_sipush (v := Int32.ofInt 400) C.1 C.2.1 dX12_beat_299 (by decide) ?_
      obtain ⟨g20, hm⟩ := grd_s hm
      refine z_icmp_ge (tgt := 321) C dX12_beat_302 (by decide) g20 (by decide) (fun c21 => ?_) (fun c21 => ?_)
      · have hm := ite_f c21 hm
        exact lm_beat_321 (N := N) C hr hlk  (lv_sub hl [0] rfl) h hm
      · have hm := ite_t c21 hm
        refine lv_aload_n C.1 C.2.1 dX12_beat_305 rfl (lv_at hl 0 rfl) ?_
        refine lv_aload_n C.1 C.2.1 dX12_beat_306 rfl (lv_at hl 0 rfl) ?_
        refine fg_148 C h dX12_beat_307 ?_
        refine lv_iload_n C.1 C.2.1 dX12_beat_310 rfl (lv_at hl 1 rfl) ?_
        obtain ⟨g22, hm⟩ := grd_s hm
        refine al_1 C h dX12_beat_311 g22 ?_
        obtain ⟨r23, e24, hm⟩ := obd_s hm
        refine q_callVv C h (rc_hear l D k g N σ (el σ 1 x3) r23 e24) (cwV 1 C.2.2.1 (gR_hear _) rfl rfl rfl hd_hear ⟨Nat.le_of_ble_eq_true rfl, Nat.le_of_ble_eq_true rfl⟩) rfl hl.1 rfl (Nat.le_of_ble_eq_true rfl) dX12_beat_312 ⟨Nat.le_of_ble_eq_true rfl, Nat.le_of_ble_eq_true rfl⟩ (fun H locs h => ?_)
        refine lv_iinc (v := Int32.ofInt (x3 + 1)) (lv' := [(3, .int (Int32.ofInt (x3 + 1))), (0, .ref (g 0))]) C.1 C.2.1 dX12_beat_315 hl (k := 1) rfl (c32_add _ _) (by decide) rfl (fun ls hl => ?_)
        refine lv_goto (tgt := 287) C.1 C.2.1 dX12_beat_318 (by decide) ?_
        exact hrec287 (lv_sub hl [1, 0] rfl) h hm
set_option maxHeartbeats 4000000 in
set_option maxRecDepth 100000 in
theorem lm_beat_7 {r : St × Int} (C : Cx p s m args c cX12_beat RX12 (cd :: rW) D (TYs k) 8) (hr : meth.sig.returnType = (some .int)) (hlk : meth.locks = false)  (n : Nat) : ∀ {ls : Array Slot} {H : Heap} {locs : List Loc} {σ : St} {x1 : Int} {x2 : Int} {x3 : Int}, lv_has ls 8 [(0, .ref (g 0)), (1, .int (Int32.ofInt x1)), (2, .int (Int32.ofInt x2)), (3, .int (Int32.ofInt x3))] → Hp D A s.heap H locs (mW k g σ) → r_beat_7 N  n σ x1 x2 x3 = some r → W p l e { frames := 6, cells := 0, slots := 0, locals := 153 } s m args below meth c H locs 0 0 (MQ below (va_Qi (fun v (_ : Unit) => v = Int32.ofInt r.2) (fun _ t => PostW D (TYs k) A (mW k g r.1) t) A) args s 0 0 A) (F0 m 7 ls []) := by
  induction n with
  | zero => intro ls H locs σ x1 x2 x3 hl h hm; cases (show none = some r from hm)
  | succ n hrec7 =>
    intro ls H locs σ x1 x2 x3 hl h hm
    rw [r_beat_7] at hm
    refine lv_iload_n C.1 C.2.1 dX12_beat_7 rfl (lv_at hl 3 rfl) ?_
    refine lv_bipush (v := Int32.ofInt 8) C.1 C.2.1 dX12_beat_8 (by decide) ?_
    obtain ⟨g1, hm⟩ := grd_s hm
    refine z_icmp_ge (tgt := 281) C dX12_beat_10 (by decide) g1 (by decide) (fun c2 => ?_) (fun c2 => ?_)
    · have hm := ite_f c2 hm
      refine lv_aload_n C.1 C.2.1 dX12_beat_281 rfl (lv_at hl 0 rfl) ?_
      obtain ⟨r3, e4, hm⟩ := obd_s hm
      refine q_callVv C h (rc_arrange l D k g N σ  r3 e4) (cwV 0 C.2.2.1 (gR_arrange _) rfl rfl rfl hd_arrange ⟨Nat.le_of_ble_eq_true rfl, Nat.le_of_ble_eq_true rfl⟩) rfl hl.1 rfl (Nat.le_of_ble_eq_true rfl) dX12_beat_282 ⟨Nat.le_of_ble_eq_true rfl, Nat.le_of_ble_eq_true rfl⟩ (fun H locs h => ?_)
      refine lv_iconst (v := Int32.ofInt 0) C.1 C.2.1 dX12_beat_285 (by decide) ?_
      refine lv_istore_n (lv' := [(3, .int (Int32.ofInt 0)), (0, .ref (g 0)), (1, .int (Int32.ofInt x1)), (2, .int (Int32.ofInt x2))]) C.1 C.2.1 dX12_beat_286 rfl hl (by decide) rfl (fun ls hl => ?_)
      exact lm_beat_287 (N := N) C hr hlk  N (lv_sub hl [1, 0] rfl) h hm
    · have hm := ite_t c2 hm
      refine lv_aload_n C.1 C.2.1 dX12_beat_13 rfl (lv_at hl 0 rfl) ?_
      refine fg_111 C h dX12_beat_14 ?_
      refine lv_iload_n C.1 C.2.1 dX12_beat_17 rfl (lv_at hl 3 rfl) ?_
      obtain ⟨g5, hm⟩ := grd_s hm
      refine al_28 C h dX12_beat_18 g5 ?_
      refine lv_iconst (v := Int32.ofInt (-1)) C.1 C.2.1 dX12_beat_19 (by decide) ?_
      obtain ⟨g6, hm⟩ := grd_s hm
      refine z_icmp_eq (tgt := 275) C dX12_beat_20 (by decide) g6 (by decide) (fun c7 => ?_) (fun c7 => ?_)
      · have hm := ite_t c7 hm
        exact lm_beat_275 (N := N) C hr hlk hrec7 (lv_sub hl [0, 1, 2, 3] rfl) h hm
      · have hm := ite_f c7 hm
        refine lv_aload_n C.1 C.2.1 dX12_beat_23 rfl (lv_at hl 0 rfl) ?_
        refine lv_iload_n C.1 C.2.1 dX12_beat_24 rfl (lv_at hl 3 rfl) ?_
        obtain ⟨r8, e9, hm⟩ := obd_s hm
        refine q_callVi C h (rc_isSounding l D k g N σ x3 r8 e9) (cwV 1 C.2.2.1 (gR_isSounding _) rfl rfl rfl hd_isSounding ⟨Nat.le_of_ble_eq_true rfl, Nat.le_of_ble_eq_true rfl⟩) rfl hl.1 rfl (Nat.le_of_ble_eq_true rfl) dX12_beat_25 ⟨Nat.le_of_ble_eq_true rfl, Nat.le_of_ble_eq_true rfl⟩ (fun H locs h => ?_)
        obtain ⟨g10, hm⟩ := grd_s hm
        refine z_if_ne (tgt := 34) C dX12_beat_28 (by decide) g10 (fun c11 => ?_) (fun c11 => ?_)
        · have hm := ite_f c11 hm
          refine lv_aload_n C.1 C.2.1 dX12_beat_34 rfl (lv_at hl 0 rfl) ?_
          refine fg_111 C h dX12_beat_35 ?_
          refine lv_iload_n C.1 C.2.1 dX12_beat_38 rfl (lv_at hl 3 rfl) ?_
          refine al_28 C h dX12_beat_39 g5 ?_
          obtain ⟨v12, e13, hm⟩ := bnd_s hm
          rw [e13]
          refine lv_istore (lv' := [(4, .int (Int32.ofInt v12)), (0, .ref (g 0)), (1, .int (Int32.ofInt x1)), (2, .int (Int32.ofInt x2)), (3, .int (Int32.ofInt x3))]) C.1 C.2.1 dX12_beat_40 hl (by decide) rfl (fun ls hl => ?_)
          refine lv_aload_n C.1 C.2.1 dX12_beat_42 rfl (lv_at hl 1 rfl) ?_
          refine lv_iload C.1 C.2.1 dX12_beat_43 (lv_at hl 0 rfl) ?_
          refine lv_aload_n C.1 C.2.1 dX12_beat_45 rfl (lv_at hl 1 rfl) ?_
          refine fg_115 C h dX12_beat_46 ?_
          obtain ⟨g14, hm⟩ := grd_s hm
          refine z_i2l C dX12_beat_49 g14 ?_
          obtain ⟨r15, e16, hm⟩ := obd_s hm
          refine q_callVv C h (rc_rowOf l D k g N r8.1 v12 (fl r8.1 115 0) r15 e16) (cwV 2 C.2.2.1 (gR_rowOf _) rfl rfl rfl hd_rowOf ⟨Nat.le_of_ble_eq_true rfl, Nat.le_of_ble_eq_true rfl⟩) rfl hl.1 rfl (Nat.le_of_ble_eq_true rfl) dX12_beat_50 ⟨Nat.le_of_ble_eq_true rfl, Nat.le_of_ble_eq_true rfl⟩ (fun H locs h => ?_)
          refine lv_iconst (v := Int32.ofInt 0) C.1 C.2.1 dX12_beat_53 (by decide) ?_
          refine lv_istore (lv' := [(5, .int (Int32.ofInt 0)), (4, .int (Int32.ofInt v12)), (0, .ref (g 0)), (1, .int (Int32.ofInt x1)), (2, .int (Int32.ofInt x2)), (3, .int (Int32.ofInt x3))]) C.1 C.2.1 dX12_beat_54 hl (by decide) rfl (fun ls hl => ?_)
          exact lm_beat_56 (N := N) C hr hlk hrec7 N (lv_sub hl [2, 3, 4, 5, 1, 0] rfl) h hm
        · have hm := ite_t c11 hm
          refine lv_goto (tgt := 275) C.1 C.2.1 dX12_beat_31 (by decide) ?_
          exact lm_beat_275 (N := N) C hr hlk hrec7 (lv_sub hl [0, 1, 2, 3] rfl) h hm
set_option maxHeartbeats 4000000 in
set_option maxRecDepth 100000 in
theorem rc_beat (l : Launch) (D : va_G) (k : Nat → ClassId) (g : Nat → Nat) (N : Nat) (σ : St) (x1 : Int) (x2 : Int) (r : St × Int) (hm : r_beat N σ x1 x2 = some r) : Mi l yX12_beat (.code yX12_beat cX12_beat 8 (some .int) :: rW) { frames := 6, cells := 0, slots := 0, locals := 153 } [.ref (g 0), .int (Int32.ofInt x1), .int (Int32.ofInt x2)] D (TYs k) (mW k g σ) (fun _ => True) Unit (fun v _ => v = Int32.ofInt r.2) (fun _ => mW k g r.1) 0 0 := by
  intro sz
  refine x_met (cc := cX12_beat) (maxL := 8) (ret := (some .int)) (by decide) rfl (Nat.le_of_ble_eq_true rfl) ?_
  intro p e s m below meth c ls C hX hsz hr hlk hmn hl h
  have hl : lv_has ls 8 [(0, .ref (g 0)), (1, .int (Int32.ofInt x1)), (2, .int (Int32.ofInt x2))] := hl
  rw [r_beat] at hm
  refine lv_aload_n C.1 C.2.1 dX12_beat_0 rfl (lv_at hl 0 rfl) ?_
  refine lv_iconst (v := Int32.ofInt 0) C.1 C.2.1 dX12_beat_1 (by decide) ?_
  refine fp_139 C h dX12_beat_2 (fun H locs h => ?_)
  refine lv_iconst (v := Int32.ofInt 0) C.1 C.2.1 dX12_beat_5 (by decide) ?_
  refine lv_istore_n (lv' := [(3, .int (Int32.ofInt 0)), (0, .ref (g 0)), (1, .int (Int32.ofInt x1)), (2, .int (Int32.ofInt x2))]) C.1 C.2.1 dX12_beat_6 rfl hl (by decide) rfl (fun ls hl => ?_)
  exact lm_beat_7 (N := N) C hr hlk  N (lv_sub hl [1, 2, 3, 0] rfl) h hm
end L_beat
section L_play
variable {p : Program} {l : Launch} {e : Env} {s : State} {m : MethodId} {args : Array Value} {below : List Frame} {meth : Method} {c : Code} {D : va_G} {A : Nat → Prop} {k : Nat → ClassId} {g : Nat → Nat} {N : Nat} {cd : Cond}
set_option maxHeartbeats 4000000 in
set_option maxRecDepth 100000 in
theorem lm_play_85 {r : St × Int} (C : Cx p s m args c cX12_play RX12 (cd :: rW) D (TYs k) 7) (hr : meth.sig.returnType = (some .int)) (hlk : meth.locks = false) {rec54 : St → Int → Int → Option (St × Int)} (hrec54 : ∀ {ls : Array Slot} {H : Heap} {locs : List Loc} {σ : St} {x4 : Int} {x5 : Int}, lv_has ls 7 [(0, .ref (g 0)), (4, .int (Int32.ofInt x4)), (5, .int (Int32.ofInt x5))] → Hp D A s.heap H locs (mW k g σ) → rec54 σ x4 x5 = some r → W p l e { frames := 7, cells := 0, slots := 0, locals := 180 } s m args below meth c H locs 0 0 (MQ below (va_Qi (fun v (_ : Unit) => v = Int32.ofInt r.2) (fun _ t => PostW D (TYs k) A (mW k g r.1) t) A) args s 0 0 A) (F0 m 54 ls [])) {ls : Array Slot} {H : Heap} {locs : List Loc} {σ : St} {x4 : Int} {x5 : Int} {s0 : Int} (hl : lv_has ls 7 [(0, .ref (g 0)), (4, .int (Int32.ofInt x4)), (5, .int (Int32.ofInt x5))]) (h : Hp D A s.heap H locs (mW k g σ)) (hm : r_play_85 N rec54 σ x4 x5 s0 = some r) : W p l e { frames := 7, cells := 0, slots := 0, locals := 180 } s m args below meth c H locs 0 0 (MQ below (va_Qi (fun v (_ : Unit) => v = Int32.ofInt r.2) (fun _ t => PostW D (TYs k) A (mW k g r.1) t) A) args s 0 0 A) (F0 m 85 ls [.int (Int32.ofInt s0)]) := by
  rw [r_play_85] at hm
  refine lv_istore (lv' := [(6, .int (Int32.ofInt s0)), (0, .ref (g 0)), (4, .int (Int32.ofInt x4)), (5, .int (Int32.ofInt x5))]) C.1 C.2.1 dX12_play_85 hl (by decide) rfl (fun ls hl => ?_)
  refine lv_iload C.1 C.2.1 dX12_play_87 (lv_at hl 3 rfl) ?_
  refine lv_aload_n C.1 C.2.1 dX12_play_89 rfl (lv_at hl 1 rfl) ?_
  refine lv_aload_n C.1 C.2.1 dX12_play_90 rfl (lv_at hl 1 rfl) ?_
  refine fg_116 C h dX12_play_91 ?_
  refine lv_aload_n C.1 C.2.1 dX12_play_94 rfl (lv_at hl 1 rfl) ?_
  refine fg_116 C h dX12_play_95 ?_
  refine lv_iload C.1 C.2.1 dX12_play_98 (lv_at hl 0 rfl) ?_
  refine z_iadd C dX12_play_100 ?_
  obtain ⟨r14, e15, hm⟩ := obd_s hm
  refine q_callVi C h (rc_beat l D k g N σ (fl σ 116 0) ((fl σ 116 0) + s0) r14 e15) (cwV 2 C.2.2.1 (gR_beat _) rfl rfl rfl hd_beat ⟨Nat.le_of_ble_eq_true rfl, Nat.le_of_ble_eq_true rfl⟩) rfl hl.1 rfl (Nat.le_of_ble_eq_true rfl) dX12_play_101 ⟨Nat.le_of_ble_eq_true rfl, Nat.le_of_ble_eq_true rfl⟩ (fun H locs h => ?_)
  refine z_iadd C dX12_play_104 ?_
  obtain ⟨v16, e17, hm⟩ := bnd_s hm
  rw [e17]
  refine lv_istore (lv' := [(5, .int (Int32.ofInt v16)), (6, .int (Int32.ofInt s0)), (0, .ref (g 0)), (4, .int (Int32.ofInt x4))]) C.1 C.2.1 dX12_play_105 hl (by decide) rfl (fun ls hl => ?_)
  refine lv_aload_n C.1 C.2.1 dX12_play_107 rfl (lv_at hl 2 rfl) ?_
  refine lv_dup C.1 C.2.1 dX12_play_108 rfl ?_
  refine fg_116 C h dX12_play_109 ?_
  refine lv_iload C.1 C.2.1 dX12_play_112 (lv_at hl 1 rfl) ?_
  refine z_iadd C dX12_play_114 ?_
  refine fp_116 C h dX12_play_115 (fun H locs h => ?_)
  refine lv_iload C.1 C.2.1 dX12_play_118 (lv_at hl 3 rfl) ?_
  refine lv_iload C.1 C.2.1 dX12_play_120 (lv_at hl 1 rfl) ?_
  refine z_isub C dX12_play_122 ?_
  obtain ⟨v18, e19, hm⟩ := bnd_s hm
  rw [e19]
  refine lv_istore (lv' := [(4, .int (Int32.ofInt v18)), (5, .int (Int32.ofInt v16)), (6, .int (Int32.ofInt s0)), (0, .ref (g 0))]) C.1 C.2.1 dX12_play_123 hl (by decide) rfl (fun ls hl => ?_)
  refine lv_aload_n C.1 C.2.1 dX12_play_125 rfl (lv_at hl 3 rfl) ?_
  refine fg_116 C h dX12_play_126 ?_
  refine x_topi (y := Int32.ofInt ((fl r14.1 116 0) + s0)) rfl ?_
  refine lv_sipush (v := Int32.ofInt 960) C.1 C.2.1 dX12_play_129 (by decide) ?_
  obtain ⟨g20, hm⟩ := grd_s hm
  refine z_icmp_ge (tgt := 138) C dX12_play_132 (by decide) g20 (by decide) (fun c21 => ?_) (fun c21 => ?_)
  · have hm := ite_f c21 hm
    refine lv_aload_n C.1 C.2.1 dX12_play_138 rfl (lv_at hl 3 rfl) ?_
    refine lv_iconst (v := Int32.ofInt 0) C.1 C.2.1 dX12_play_139 (by decide) ?_
    refine fp_116 C h dX12_play_140 (fun H locs h => ?_)
    refine lv_aload_n C.1 C.2.1 dX12_play_143 rfl (lv_at hl 3 rfl) ?_
    refine lv_dup C.1 C.2.1 dX12_play_144 rfl ?_
    refine fg_115 C h dX12_play_145 ?_
    refine x_topi (y := Int32.ofInt (fl r14.1 115 0)) rfl ?_
    refine lv_iconst (v := Int32.ofInt 1) C.1 C.2.1 dX12_play_148 (by decide) ?_
    refine z_iadd C dX12_play_149 ?_
    refine fp_115 C h dX12_play_150 (fun H locs h => ?_)
    refine lv_aload_n C.1 C.2.1 dX12_play_153 rfl (lv_at hl 3 rfl) ?_
    obtain ⟨σ22, e23, hm⟩ := bnd_s hm
    rw [e23] at h
    obtain ⟨r24, e25, hm⟩ := obd_s hm
    refine q_callVv C h (rc_swaps l D k g N σ22  r24 e25) (cwV 0 C.2.2.1 (gR_swaps _) rfl rfl rfl hd_swaps ⟨Nat.le_of_ble_eq_true rfl, Nat.le_of_ble_eq_true rfl⟩) rfl hl.1 rfl (Nat.le_of_ble_eq_true rfl) dX12_play_154 ⟨Nat.le_of_ble_eq_true rfl, Nat.le_of_ble_eq_true rfl⟩ (fun H locs h => ?_)
    refine lv_goto (tgt := 54) C.1 C.2.1 dX12_play_157 (by decide) ?_
    exact hrec54 (lv_sub hl [3, 0, 1] rfl) h hm
  · have hm := ite_t c21 hm
    refine lv_goto (tgt := 54) C.1 C.2.1 dX12_play_135 (by decide) ?_
    exact hrec54 (lv_sub hl [3, 0, 1] rfl) h hm
set_option maxHeartbeats 4000000 in
set_option maxRecDepth 100000 in
theorem lm_play_54 {r : St × Int} (C : Cx p s m args c cX12_play RX12 (cd :: rW) D (TYs k) 7) (hr : meth.sig.returnType = (some .int)) (hlk : meth.locks = false)  (n : Nat) : ∀ {ls : Array Slot} {H : Heap} {locs : List Loc} {σ : St} {x4 : Int} {x5 : Int}, lv_has ls 7 [(0, .ref (g 0)), (4, .int (Int32.ofInt x4)), (5, .int (Int32.ofInt x5))] → Hp D A s.heap H locs (mW k g σ) → r_play_54 N  n σ x4 x5 = some r → W p l e { frames := 7, cells := 0, slots := 0, locals := 180 } s m args below meth c H locs 0 0 (MQ below (va_Qi (fun v (_ : Unit) => v = Int32.ofInt r.2) (fun _ t => PostW D (TYs k) A (mW k g r.1) t) A) args s 0 0 A) (F0 m 54 ls []) := by
  induction n with
  | zero => intro ls H locs σ x4 x5 hl h hm; cases (show none = some r from hm)
  | succ n hrec54 =>
    intro ls H locs σ x4 x5 hl h hm
    rw [r_play_54] at hm
    refine lv_iload C.1 C.2.1 dX12_play_54 (lv_at hl 1 rfl) ?_
    obtain ⟨g10, hm⟩ := grd_s hm
    refine z_if_le (tgt := 160) C dX12_play_56 (by decide) g10 (fun c11 => ?_) (fun c11 => ?_)
    · have hm := ite_f c11 hm
      refine lv_aload_n C.1 C.2.1 dX12_play_160 rfl (lv_at hl 0 rfl) ?_
      refine lv_dup C.1 C.2.1 dX12_play_161 rfl ?_
      refine fg_117 C h dX12_play_162 ?_
      refine lv_iload C.1 C.2.1 dX12_play_165 (lv_at hl 2 rfl) ?_
      refine z_iadd C dX12_play_167 ?_
      refine fp_117 C h dX12_play_168 (fun H locs h => ?_)
      refine lv_iload C.1 C.2.1 dX12_play_171 (lv_at hl 2 rfl) ?_
      cases hm
      exact q_iret C h hr hlk dX12_play_173 rfl
    · have hm := ite_t c11 hm
      refine lv_iload C.1 C.2.1 dX12_play_59 (lv_at hl 1 rfl) ?_
      refine lv_sipush (v := Int32.ofInt 960) C.1 C.2.1 dX12_play_61 (by decide) ?_
      refine lv_aload_n C.1 C.2.1 dX12_play_64 rfl (lv_at hl 0 rfl) ?_
      refine fg_116 C h dX12_play_65 ?_
      refine z_isub C dX12_play_68 ?_
      obtain ⟨g12, hm⟩ := grd_s hm
      refine z_icmp_ge (tgt := 77) C dX12_play_69 (by decide) g10 g12 (fun c13 => ?_) (fun c13 => ?_)
      · have hm := ite_f c13 hm
        refine lv_sipush (v := Int32.ofInt 960) C.1 C.2.1 dX12_play_77 (by decide) ?_
        refine lv_aload_n C.1 C.2.1 dX12_play_80 rfl (lv_at hl 0 rfl) ?_
        refine fg_116 C h dX12_play_81 ?_
        refine z_isub C dX12_play_84 ?_
        exact lm_play_85 (N := N) C hr hlk hrec54 (lv_sub hl [0, 1, 2] rfl) h hm
      · have hm := ite_t c13 hm
        refine lv_iload C.1 C.2.1 dX12_play_72 (lv_at hl 1 rfl) ?_
        refine lv_goto (tgt := 85) C.1 C.2.1 dX12_play_74 (by decide) ?_
        exact lm_play_85 (N := N) C hr hlk hrec54 (lv_sub hl [0, 1, 2] rfl) h hm
set_option maxHeartbeats 4000000 in
set_option maxRecDepth 100000 in
theorem rc_play (l : Launch) (D : va_G) (k : Nat → ClassId) (g : Nat → Nat) (N : Nat) (σ : St) (x1 : Int) (r : St × Int) (hm : r_play N σ x1 = some r) : Mi l yX12_play (.code yX12_play cX12_play 7 (some .int) :: rW) { frames := 7, cells := 0, slots := 0, locals := 180 } [.ref (g 0), .int (Int32.ofInt x1)] D (TYs k) (mW k g σ) (fun _ => True) Unit (fun v _ => v = Int32.ofInt r.2) (fun _ => mW k g r.1) 0 0 := by
  intro sz
  refine x_met (cc := cX12_play) (maxL := 7) (ret := (some .int)) (by decide) rfl (Nat.le_of_ble_eq_true rfl) ?_
  intro p e s m below meth c ls C hX hsz hr hlk hmn hl h
  have hl : lv_has ls 7 [(0, .ref (g 0)), (1, .int (Int32.ofInt x1))] := hl
  rw [r_play] at hm
  refine lv_iload_n C.1 C.2.1 dX12_play_0 rfl (lv_at hl 1 rfl) ?_
  refine lv_iconst (v := Int32.ofInt 1) C.1 C.2.1 dX12_play_1 (by decide) ?_
  obtain ⟨g1, hm⟩ := grd_s hm
  refine z_icmp_lt (tgt := 12) C dX12_play_2 (by decide) g1 (by decide) (fun c2 => ?_) (fun c2 => ?_)
  · have hm := ite_t c2 hm
    refine lv_iconst (v := Int32.ofInt (-1)) C.1 C.2.1 dX12_play_12 (by decide) ?_
    cases hm
    exact q_iret C h hr hlk dX12_play_13 rfl
  · have hm := ite_f c2 hm
    refine lv_iload_n C.1 C.2.1 dX12_play_5 rfl (lv_at hl 1 rfl) ?_
    refine lv_sipush (v := Int32.ofInt 3840) C.1 C.2.1 dX12_play_6 (by decide) ?_
    refine z_icmp_le (tgt := 14) C dX12_play_9 (by decide) g1 (by decide) (fun c3 => ?_) (fun c3 => ?_)
    · have hm := ite_f c3 hm
      refine lv_aload_n C.1 C.2.1 dX12_play_14 rfl (lv_at hl 0 rfl) ?_
      refine fg_115 C h dX12_play_15 ?_
      obtain ⟨g4, hm⟩ := grd_s hm
      refine z_i2l C dX12_play_18 g4 ?_
      refine lv_ldc2 (v := 960) C.1 C.2.1 C.2.2.2.1 (C.2.2.1 _ (List.mem_cons_of_mem _ wk_882)) dX12_play_19 ?_
      refine x_topl (y := Int64.ofInt 960) (by decide) ?_
      refine z_lmul C dX12_play_22 ?_
      refine lv_aload_n C.1 C.2.1 dX12_play_23 rfl (lv_at hl 0 rfl) ?_
      refine fg_116 C h dX12_play_24 ?_
      obtain ⟨g5, hm⟩ := grd_s hm
      refine z_i2l C dX12_play_27 g5 ?_
      refine z_ladd C dX12_play_28 ?_
      refine lv_iload_n C.1 C.2.1 dX12_play_29 rfl (lv_at hl 1 rfl) ?_
      refine z_i2l C dX12_play_30 g1 ?_
      refine z_ladd C dX12_play_31 ?_
      obtain ⟨v6, e7, hm⟩ := bnd_s hm
      rw [e7]
      refine lv_lstore_n (lv' := [(2, .long (Int64.ofInt v6)), (0, .ref (g 0)), (1, .int (Int32.ofInt x1))]) C.1 C.2.1 dX12_play_32 rfl hl (by decide) rfl (fun ls hl => ?_)
      refine lv_lload_n C.1 C.2.1 dX12_play_33 rfl (lv_at hl 0 rfl) ?_
      refine lv_ldc2 (v := 96000000) C.1 C.2.1 C.2.2.2.1 (C.2.2.1 _ (List.mem_cons_of_mem _ wk_893)) dX12_play_34 ?_
      refine x_topl (y := Int64.ofInt 96000000) (by decide) ?_
      obtain ⟨g8, hm⟩ := grd_s hm
      refine W.lcmp C.1 C.2.1 dX12_play_37 ?_
      refine z_lcmp_le (tgt := 43) C dX12_play_38 (by decide) g8 (by decide) (fun c9 => ?_) (fun c9 => ?_)
      · have hm := ite_f c9 hm
        refine lv_aload_n C.1 C.2.1 dX12_play_43 rfl (lv_at hl 1 rfl) ?_
        refine lv_iconst (v := Int32.ofInt 0) C.1 C.2.1 dX12_play_44 (by decide) ?_
        refine fp_129 C h dX12_play_45 (fun H locs h => ?_)
        refine lv_iload_n C.1 C.2.1 dX12_play_48 rfl (lv_at hl 2 rfl) ?_
        refine lv_istore (lv' := [(4, .int (Int32.ofInt x1)), (2, .long (Int64.ofInt v6)), (0, .ref (g 0)), (1, .int (Int32.ofInt x1))]) C.1 C.2.1 dX12_play_49 hl (by decide) rfl (fun ls hl => ?_)
        refine lv_iconst (v := Int32.ofInt 0) C.1 C.2.1 dX12_play_51 (by decide) ?_
        refine lv_istore (lv' := [(5, .int (Int32.ofInt 0)), (4, .int (Int32.ofInt x1)), (2, .long (Int64.ofInt v6)), (0, .ref (g 0)), (1, .int (Int32.ofInt x1))]) C.1 C.2.1 dX12_play_52 hl (by decide) rfl (fun ls hl => ?_)
        exact lm_play_54 (N := N) C hr hlk  N (lv_sub hl [3, 1, 0] rfl) h hm
      · have hm := ite_t c9 hm
        refine lv_iconst (v := Int32.ofInt (-1)) C.1 C.2.1 dX12_play_41 (by decide) ?_
        cases hm
        exact q_iret C h hr hlk dX12_play_42 rfl
    · have hm := ite_t c3 hm
      refine lv_iconst (v := Int32.ofInt (-1)) C.1 C.2.1 dX12_play_12 (by decide) ?_
      cases hm
      exact q_iret C h hr hlk dX12_play_13 rfl
end L_play
section L_heard
variable {p : Program} {l : Launch} {e : Env} {s : State} {m : MethodId} {args : Array Value} {below : List Frame} {meth : Method} {c : Code} {D : va_G} {A : Nat → Prop} {k : Nat → ClassId} {g : Nat → Nat} {N : Nat} {cd : Cond}
set_option maxHeartbeats 4000000 in
set_option maxRecDepth 100000 in
theorem lm_heard_97 {r : St × Int} (C : Cx p s m args c cX12_heard RX12 (cd :: rW) D (TYs k) 3) (hr : meth.sig.returnType = (some .int)) (hlk : meth.locks = false)  {ls : Array Slot} {H : Heap} {locs : List Loc} {σ : St} {s0 : Int} {s1 : Int} {s2 : Int} (hl : lv_has ls 3 []) (h : Hp D A s.heap H locs (mW k g σ)) (hm : r_heard_97 N  σ s0 s1 s2 = some r) : W p l e { frames := 2, cells := 0, slots := 0, locals := 55 } s m args below meth c H locs 0 0 (MQ below (va_Qi (fun v (_ : Unit) => v = Int32.ofInt r.2) (fun _ t => PostW D (TYs k) A (mW k g r.1) t) A) args s 0 0 A) (F0 m 97 ls [.int (Int32.ofInt s0), .long (Int64.ofInt s1), .long (Int64.ofInt s2)]) := by
  rw [r_heard_97] at hm
  obtain ⟨r34, e35, hm⟩ := obd_s hm
  refine q_callSi C h (rc_lowest l D k N s2 s1 s0 r34 e35) (cwS 3 C.2.2.1 (gR_lowest _) rfl rfl rfl hd_lowest ⟨Nat.le_of_ble_eq_true rfl, Nat.le_of_ble_eq_true rfl⟩) rfl hl.1 rfl (Nat.le_of_ble_eq_true rfl) dX12_heard_97 ⟨Nat.le_of_ble_eq_true rfl, Nat.le_of_ble_eq_true rfl⟩ (fun H locs h => ?_)
  cases hm
  exact q_iret C h hr hlk dX12_heard_100 rfl
set_option maxHeartbeats 4000000 in
set_option maxRecDepth 100000 in
theorem lm_heard_124 {r : St × Int} (C : Cx p s m args c cX12_heard RX12 (cd :: rW) D (TYs k) 3) (hr : meth.sig.returnType = (some .int)) (hlk : meth.locks = false)  {ls : Array Slot} {H : Heap} {locs : List Loc} {σ : St} {s0 : Int} {s1 : Int} {s2 : Int} (hl : lv_has ls 3 []) (h : Hp D A s.heap H locs (mW k g σ)) (hm : r_heard_124 N  σ s0 s1 s2 = some r) : W p l e { frames := 2, cells := 0, slots := 0, locals := 55 } s m args below meth c H locs 0 0 (MQ below (va_Qi (fun v (_ : Unit) => v = Int32.ofInt r.2) (fun _ t => PostW D (TYs k) A (mW k g r.1) t) A) args s 0 0 A) (F0 m 124 ls [.int (Int32.ofInt s0), .long (Int64.ofInt s1), .long (Int64.ofInt s2)]) := by
  rw [r_heard_124] at hm
  obtain ⟨r36, e37, hm⟩ := obd_s hm
  refine q_callSi C h (rc_lowest l D k N s2 s1 s0 r36 e37) (cwS 3 C.2.2.1 (gR_lowest _) rfl rfl rfl hd_lowest ⟨Nat.le_of_ble_eq_true rfl, Nat.le_of_ble_eq_true rfl⟩) rfl hl.1 rfl (Nat.le_of_ble_eq_true rfl) dX12_heard_124 ⟨Nat.le_of_ble_eq_true rfl, Nat.le_of_ble_eq_true rfl⟩ (fun H locs h => ?_)
  cases hm
  exact q_iret C h hr hlk dX12_heard_127 rfl
set_option maxHeartbeats 4000000 in
set_option maxRecDepth 100000 in
theorem rc_heard (l : Launch) (D : va_G) (k : Nat → ClassId) (g : Nat → Nat) (N : Nat) (σ : St) (x1 : Int) (x2 : Int) (r : St × Int) (hm : r_heard N σ x1 x2 = some r) : Mi l yX12_heard (.code yX12_heard cX12_heard 3 (some .int) :: rW) { frames := 2, cells := 0, slots := 0, locals := 55 } [.ref (g 0), .int (Int32.ofInt x1), .int (Int32.ofInt x2)] D (TYs k) (mW k g σ) (fun _ => True) Unit (fun v _ => v = Int32.ofInt r.2) (fun _ => mW k g r.1) 0 0 := by
  intro sz
  refine x_met (cc := cX12_heard) (maxL := 3) (ret := (some .int)) (by decide) rfl (Nat.le_of_ble_eq_true rfl) ?_
  intro p e s m below meth c ls C hX hsz hr hlk hmn hl h
  have hl : lv_has ls 3 [(0, .ref (g 0)), (1, .int (Int32.ofInt x1)), (2, .int (Int32.ofInt x2))] := hl
  rw [r_heard] at hm
  refine lv_iload_n C.1 C.2.1 dX12_heard_0 rfl (lv_at hl 1 rfl) ?_
  obtain ⟨g1, hm⟩ := grd_s hm
  refine z_if_lt (tgt := 12) C dX12_heard_1 (by decide) g1 (fun c2 => ?_) (fun c2 => ?_)
  · have hm := ite_t c2 hm
    refine lv_iconst (v := Int32.ofInt (-1)) C.1 C.2.1 dX12_heard_12 (by decide) ?_
    cases hm
    exact q_iret C h hr hlk dX12_heard_13 rfl
  · have hm := ite_f c2 hm
    refine lv_iload_n C.1 C.2.1 dX12_heard_4 rfl (lv_at hl 1 rfl) ?_
    refine lv_aload_n C.1 C.2.1 dX12_heard_5 rfl (lv_at hl 0 rfl) ?_
    refine fg_129 C h dX12_heard_6 ?_
    obtain ⟨g3, hm⟩ := grd_s hm
    refine z_icmp_lt (tgt := 14) C dX12_heard_9 (by decide) g1 g3 (fun c4 => ?_) (fun c4 => ?_)
    · have hm := ite_t c4 hm
      refine lv_iload_n C.1 C.2.1 dX12_heard_14 rfl (lv_at hl 2 rfl) ?_
      obtain ⟨g5, hm⟩ := grd_s hm
      by_cases c6 : x2 = 0
      · refine x_topi (congrArg Int32.ofInt c6) ?_
        have hm := ite_t c6 hm
        refine lv_tableIn (tgt := 60) C.1 C.2.1 dX12_heard_15 (by decide) (by decide) rfl (by decide) ?_
        refine lv_aload_n C.1 C.2.1 dX12_heard_60 rfl (lv_at hl 0 rfl) ?_
        refine fg_130 C h dX12_heard_61 ?_
        refine lv_iload_n C.1 C.2.1 dX12_heard_64 rfl (lv_at hl 1 rfl) ?_
        obtain ⟨g7, hm⟩ := grd_s hm
        refine al_18 C h dX12_heard_65 g7 ?_
        cases hm
        exact q_iret C h hr hlk dX12_heard_66 rfl
      have hm := ite_f c6 hm
      by_cases c8 : x2 = 1
      · refine x_topi (congrArg Int32.ofInt c8) ?_
        have hm := ite_t c8 hm
        refine lv_tableIn (tgt := 67) C.1 C.2.1 dX12_heard_15 (by decide) (by decide) rfl (by decide) ?_
        refine lv_aload_n C.1 C.2.1 dX12_heard_67 rfl (lv_at hl 0 rfl) ?_
        refine fg_131 C h dX12_heard_68 ?_
        refine lv_iload_n C.1 C.2.1 dX12_heard_71 rfl (lv_at hl 1 rfl) ?_
        obtain ⟨g9, hm⟩ := grd_s hm
        refine al_17 C h dX12_heard_72 g9 ?_
        cases hm
        exact q_iret C h hr hlk dX12_heard_73 rfl
      have hm := ite_f c8 hm
      by_cases c10 : x2 = 2
      · refine x_topi (congrArg Int32.ofInt c10) ?_
        have hm := ite_t c10 hm
        refine lv_tableIn (tgt := 74) C.1 C.2.1 dX12_heard_15 (by decide) (by decide) rfl (by decide) ?_
        refine lv_aload_n C.1 C.2.1 dX12_heard_74 rfl (lv_at hl 0 rfl) ?_
        refine fg_133 C h dX12_heard_75 ?_
        refine lv_iload_n C.1 C.2.1 dX12_heard_78 rfl (lv_at hl 1 rfl) ?_
        obtain ⟨g11, hm⟩ := grd_s hm
        refine al_15 C h dX12_heard_79 g11 ?_
        refine lv_aload_n C.1 C.2.1 dX12_heard_80 rfl (lv_at hl 0 rfl) ?_
        refine fg_132 C h dX12_heard_81 ?_
        refine lv_iload_n C.1 C.2.1 dX12_heard_84 rfl (lv_at hl 1 rfl) ?_
        refine al_16 C h dX12_heard_85 g11 ?_
        obtain ⟨g12, hm⟩ := grd_s hm
        refine z_i2l C dX12_heard_86 g12 ?_
        refine lv_iload_n C.1 C.2.1 dX12_heard_87 rfl (lv_at hl 2 rfl) ?_
        refine lv_iconst (v := Int32.ofInt 3) C.1 C.2.1 dX12_heard_88 (by decide) ?_
        refine z_icmp_ne (tgt := 96) C dX12_heard_89 (by decide) g5 (by decide) (fun c13 => ?_) (fun c13 => ?_)
        · have hm := ite_f c13 hm
          refine lv_iconst (v := Int32.ofInt 0) C.1 C.2.1 dX12_heard_96 (by decide) ?_
          exact lm_heard_97 (N := N) C hr hlk  (lv_sub hl [] rfl) h hm
        · have hm := ite_t c13 hm
          refine lv_iconst (v := Int32.ofInt 1) C.1 C.2.1 dX12_heard_92 (by decide) ?_
          refine lv_goto (tgt := 97) C.1 C.2.1 dX12_heard_93 (by decide) ?_
          exact lm_heard_97 (N := N) C hr hlk  (lv_sub hl [] rfl) h hm
      have hm := ite_f c10 hm
      by_cases c14 : x2 = 3
      · refine x_topi (congrArg Int32.ofInt c14) ?_
        have hm := ite_t c14 hm
        refine lv_tableIn (tgt := 74) C.1 C.2.1 dX12_heard_15 (by decide) (by decide) rfl (by decide) ?_
        refine lv_aload_n C.1 C.2.1 dX12_heard_74 rfl (lv_at hl 0 rfl) ?_
        refine fg_133 C h dX12_heard_75 ?_
        refine lv_iload_n C.1 C.2.1 dX12_heard_78 rfl (lv_at hl 1 rfl) ?_
        obtain ⟨g15, hm⟩ := grd_s hm
        refine al_15 C h dX12_heard_79 g15 ?_
        refine lv_aload_n C.1 C.2.1 dX12_heard_80 rfl (lv_at hl 0 rfl) ?_
        refine fg_132 C h dX12_heard_81 ?_
        refine lv_iload_n C.1 C.2.1 dX12_heard_84 rfl (lv_at hl 1 rfl) ?_
        refine al_16 C h dX12_heard_85 g15 ?_
        obtain ⟨g16, hm⟩ := grd_s hm
        refine z_i2l C dX12_heard_86 g16 ?_
        refine lv_iload_n C.1 C.2.1 dX12_heard_87 rfl (lv_at hl 2 rfl) ?_
        refine lv_iconst (v := Int32.ofInt 3) C.1 C.2.1 dX12_heard_88 (by decide) ?_
        refine z_icmp_ne (tgt := 96) C dX12_heard_89 (by decide) g5 (by decide) (fun c17 => ?_) (fun c17 => ?_)
        · have hm := ite_f c17 hm
          refine lv_iconst (v := Int32.ofInt 0) C.1 C.2.1 dX12_heard_96 (by decide) ?_
          exact lm_heard_97 (N := N) C hr hlk  (lv_sub hl [] rfl) h hm
        · have hm := ite_t c17 hm
          refine lv_iconst (v := Int32.ofInt 1) C.1 C.2.1 dX12_heard_92 (by decide) ?_
          refine lv_goto (tgt := 97) C.1 C.2.1 dX12_heard_93 (by decide) ?_
          exact lm_heard_97 (N := N) C hr hlk  (lv_sub hl [] rfl) h hm
      have hm := ite_f c14 hm
      by_cases c18 : x2 = 4
      · refine x_topi (congrArg Int32.ofInt c18) ?_
        have hm := ite_t c18 hm
        refine lv_tableIn (tgt := 101) C.1 C.2.1 dX12_heard_15 (by decide) (by decide) rfl (by decide) ?_
        refine lv_aload_n C.1 C.2.1 dX12_heard_101 rfl (lv_at hl 0 rfl) ?_
        refine fg_134 C h dX12_heard_102 ?_
        refine lv_iload_n C.1 C.2.1 dX12_heard_105 rfl (lv_at hl 1 rfl) ?_
        obtain ⟨g19, hm⟩ := grd_s hm
        refine al_14 C h dX12_heard_106 g19 ?_
        refine lv_aload_n C.1 C.2.1 dX12_heard_107 rfl (lv_at hl 0 rfl) ?_
        refine fg_132 C h dX12_heard_108 ?_
        refine lv_iload_n C.1 C.2.1 dX12_heard_111 rfl (lv_at hl 1 rfl) ?_
        refine al_16 C h dX12_heard_112 g19 ?_
        obtain ⟨g20, hm⟩ := grd_s hm
        refine z_i2l C dX12_heard_113 g20 ?_
        refine lv_iload_n C.1 C.2.1 dX12_heard_114 rfl (lv_at hl 2 rfl) ?_
        refine lv_iconst (v := Int32.ofInt 5) C.1 C.2.1 dX12_heard_115 (by decide) ?_
        refine z_icmp_ne (tgt := 123) C dX12_heard_116 (by decide) g5 (by decide) (fun c21 => ?_) (fun c21 => ?_)
        · have hm := ite_f c21 hm
          refine lv_iconst (v := Int32.ofInt 0) C.1 C.2.1 dX12_heard_123 (by decide) ?_
          exact lm_heard_124 (N := N) C hr hlk  (lv_sub hl [] rfl) h hm
        · have hm := ite_t c21 hm
          refine lv_iconst (v := Int32.ofInt 1) C.1 C.2.1 dX12_heard_119 (by decide) ?_
          refine lv_goto (tgt := 124) C.1 C.2.1 dX12_heard_120 (by decide) ?_
          exact lm_heard_124 (N := N) C hr hlk  (lv_sub hl [] rfl) h hm
      have hm := ite_f c18 hm
      by_cases c22 : x2 = 5
      · refine x_topi (congrArg Int32.ofInt c22) ?_
        have hm := ite_t c22 hm
        refine lv_tableIn (tgt := 101) C.1 C.2.1 dX12_heard_15 (by decide) (by decide) rfl (by decide) ?_
        refine lv_aload_n C.1 C.2.1 dX12_heard_101 rfl (lv_at hl 0 rfl) ?_
        refine fg_134 C h dX12_heard_102 ?_
        refine lv_iload_n C.1 C.2.1 dX12_heard_105 rfl (lv_at hl 1 rfl) ?_
        obtain ⟨g23, hm⟩ := grd_s hm
        refine al_14 C h dX12_heard_106 g23 ?_
        refine lv_aload_n C.1 C.2.1 dX12_heard_107 rfl (lv_at hl 0 rfl) ?_
        refine fg_132 C h dX12_heard_108 ?_
        refine lv_iload_n C.1 C.2.1 dX12_heard_111 rfl (lv_at hl 1 rfl) ?_
        refine al_16 C h dX12_heard_112 g23 ?_
        obtain ⟨g24, hm⟩ := grd_s hm
        refine z_i2l C dX12_heard_113 g24 ?_
        refine lv_iload_n C.1 C.2.1 dX12_heard_114 rfl (lv_at hl 2 rfl) ?_
        refine lv_iconst (v := Int32.ofInt 5) C.1 C.2.1 dX12_heard_115 (by decide) ?_
        refine z_icmp_ne (tgt := 123) C dX12_heard_116 (by decide) g5 (by decide) (fun c25 => ?_) (fun c25 => ?_)
        · have hm := ite_f c25 hm
          refine lv_iconst (v := Int32.ofInt 0) C.1 C.2.1 dX12_heard_123 (by decide) ?_
          exact lm_heard_124 (N := N) C hr hlk  (lv_sub hl [] rfl) h hm
        · have hm := ite_t c25 hm
          refine lv_iconst (v := Int32.ofInt 1) C.1 C.2.1 dX12_heard_119 (by decide) ?_
          refine lv_goto (tgt := 124) C.1 C.2.1 dX12_heard_120 (by decide) ?_
          exact lm_heard_124 (N := N) C hr hlk  (lv_sub hl [] rfl) h hm
      have hm := ite_f c22 hm
      by_cases c26 : x2 = 6
      · refine x_topi (congrArg Int32.ofInt c26) ?_
        have hm := ite_t c26 hm
        refine lv_tableIn (tgt := 128) C.1 C.2.1 dX12_heard_15 (by decide) (by decide) rfl (by decide) ?_
        refine lv_aload_n C.1 C.2.1 dX12_heard_128 rfl (lv_at hl 0 rfl) ?_
        refine fg_138 C h dX12_heard_129 ?_
        refine lv_iload_n C.1 C.2.1 dX12_heard_132 rfl (lv_at hl 1 rfl) ?_
        obtain ⟨g27, hm⟩ := grd_s hm
        refine al_10 C h dX12_heard_133 g27 ?_
        refine lv_iconst (v := Int32.ofInt 2) C.1 C.2.1 dX12_heard_134 (by decide) ?_
        refine z_iand C dX12_heard_135 ?_
        refine lv_iconst (v := Int32.ofInt 2) C.1 C.2.1 dX12_heard_136 (by decide) ?_
        obtain ⟨g28, hm⟩ := grd_s hm
        refine z_icmp_ne (tgt := 149) C dX12_heard_137 (by decide) g28 (by decide) (fun c29 => ?_) (fun c29 => ?_)
        · have hm := ite_f c29 hm
          refine lv_iconst (v := Int32.ofInt 0) C.1 C.2.1 dX12_heard_149 (by decide) ?_
          cases hm
          exact q_iret C h hr hlk dX12_heard_150 rfl
        · have hm := ite_t c29 hm
          refine lv_aload_n C.1 C.2.1 dX12_heard_140 rfl (lv_at hl 0 rfl) ?_
          refine fg_137 C h dX12_heard_141 ?_
          refine lv_iload_n C.1 C.2.1 dX12_heard_144 rfl (lv_at hl 1 rfl) ?_
          refine al_11 C h dX12_heard_145 g27 ?_
          refine lv_goto (tgt := 150) C.1 C.2.1 dX12_heard_146 (by decide) ?_
          cases hm
          exact q_iret C h hr hlk dX12_heard_150 rfl
      have hm := ite_f c26 hm
      by_cases c30 : x2 = 7
      · refine x_topi (congrArg Int32.ofInt c30) ?_
        have hm := ite_t c30 hm
        refine lv_tableIn (tgt := 151) C.1 C.2.1 dX12_heard_15 (by decide) (by decide) rfl (by decide) ?_
        refine lv_aload_n C.1 C.2.1 dX12_heard_151 rfl (lv_at hl 0 rfl) ?_
        refine fg_135 C h dX12_heard_152 ?_
        refine lv_iload_n C.1 C.2.1 dX12_heard_155 rfl (lv_at hl 1 rfl) ?_
        obtain ⟨g31, hm⟩ := grd_s hm
        refine al_13 C h dX12_heard_156 g31 ?_
        refine lv_aload_n C.1 C.2.1 dX12_heard_157 rfl (lv_at hl 0 rfl) ?_
        refine fg_136 C h dX12_heard_158 ?_
        refine lv_iload_n C.1 C.2.1 dX12_heard_161 rfl (lv_at hl 1 rfl) ?_
        refine al_12 C h dX12_heard_162 g31 ?_
        obtain ⟨r32, e33, hm⟩ := obd_s hm
        refine q_callSi C h (rc_letters l D k N (el σ 13 x1) (el σ 12 x1) r32 e33) (cwS 2 C.2.2.1 (gR_letters _) rfl rfl rfl hd_letters ⟨Nat.le_of_ble_eq_true rfl, Nat.le_of_ble_eq_true rfl⟩) rfl hl.1 rfl (Nat.le_of_ble_eq_true rfl) dX12_heard_163 ⟨Nat.le_of_ble_eq_true rfl, Nat.le_of_ble_eq_true rfl⟩ (fun H locs h => ?_)
        cases hm
        exact q_iret C h hr hlk dX12_heard_166 rfl
      have hm := ite_f c30 hm
      refine lv_tableOut (tgt := 167) C.1 C.2.1 dX12_heard_15 (by rw [c32_ti g5]; omega) (by decide) ?_
      refine lv_iconst (v := Int32.ofInt (-1)) C.1 C.2.1 dX12_heard_167 (by decide) ?_
      cases hm
      exact q_iret C h hr hlk dX12_heard_168 rfl
    · have hm := ite_f c4 hm
      refine lv_iconst (v := Int32.ofInt (-1)) C.1 C.2.1 dX12_heard_12 (by decide) ?_
      cases hm
      exact q_iret C h hr hlk dX12_heard_13 rfl
end L_heard
section L_heardLetter
variable {p : Program} {l : Launch} {e : Env} {s : State} {m : MethodId} {args : Array Value} {below : List Frame} {meth : Method} {c : Code} {D : va_G} {A : Nat → Prop} {k : Nat → ClassId} {g : Nat → Nat} {N : Nat} {cd : Cond}
set_option maxHeartbeats 4000000 in
set_option maxRecDepth 100000 in
theorem lm_heardLetter_12 {r : St × Int} (C : Cx p s m args c cX12_heardLetter RX12 (cd :: rW) D (TYs k) 3) (hr : meth.sig.returnType = (some .int)) (hlk : meth.locks = false)  {ls : Array Slot} {H : Heap} {locs : List Loc} {σ : St}  (hl : lv_has ls 3 []) (h : Hp D A s.heap H locs (mW k g σ)) (hm : r_heardLetter_12 N  σ  = some r) : W p l e { frames := 2, cells := 0, slots := 0, locals := 48 } s m args below meth c H locs 0 0 (MQ below (va_Qi (fun v (_ : Unit) => v = Int32.ofInt r.2) (fun _ t => PostW D (TYs k) A (mW k g r.1) t) A) args s 0 0 A) (F0 m 12 ls []) := by
  rw [r_heardLetter_12] at hm
  refine lv_iconst (v := Int32.ofInt (-1)) C.1 C.2.1 dX12_heardLetter_12 (by decide) ?_
  refine lv_goto (tgt := 32) C.1 C.2.1 dX12_heardLetter_13 (by decide) ?_
  cases hm
  exact q_iret C h hr hlk dX12_heardLetter_32 rfl
set_option maxHeartbeats 4000000 in
set_option maxRecDepth 100000 in
theorem rc_heardLetter (l : Launch) (D : va_G) (k : Nat → ClassId) (g : Nat → Nat) (N : Nat) (σ : St) (x1 : Int) (x2 : Int) (r : St × Int) (hm : r_heardLetter N σ x1 x2 = some r) : Mi l yX12_heardLetter (.code yX12_heardLetter cX12_heardLetter 3 (some .int) :: rW) { frames := 2, cells := 0, slots := 0, locals := 48 } [.ref (g 0), .int (Int32.ofInt x1), .int (Int32.ofInt x2)] D (TYs k) (mW k g σ) (fun _ => True) Unit (fun v _ => v = Int32.ofInt r.2) (fun _ => mW k g r.1) 0 0 := by
  intro sz
  refine x_met (cc := cX12_heardLetter) (maxL := 3) (ret := (some .int)) (by decide) rfl (Nat.le_of_ble_eq_true rfl) ?_
  intro p e s m below meth c ls C hX hsz hr hlk hmn hl h
  have hl : lv_has ls 3 [(0, .ref (g 0)), (1, .int (Int32.ofInt x1)), (2, .int (Int32.ofInt x2))] := hl
  rw [r_heardLetter] at hm
  refine lv_iload_n C.1 C.2.1 dX12_heardLetter_0 rfl (lv_at hl 1 rfl) ?_
  obtain ⟨g1, hm⟩ := grd_s hm
  refine z_if_lt (tgt := 12) C dX12_heardLetter_1 (by decide) g1 (fun c2 => ?_) (fun c2 => ?_)
  · have hm := ite_t c2 hm
    exact lm_heardLetter_12 (N := N) C hr hlk  (lv_sub hl [] rfl) h hm
  · have hm := ite_f c2 hm
    refine lv_iload_n C.1 C.2.1 dX12_heardLetter_4 rfl (lv_at hl 1 rfl) ?_
    refine lv_aload_n C.1 C.2.1 dX12_heardLetter_5 rfl (lv_at hl 0 rfl) ?_
    refine fg_129 C h dX12_heardLetter_6 ?_
    obtain ⟨g3, hm⟩ := grd_s hm
    refine z_icmp_lt (tgt := 16) C dX12_heardLetter_9 (by decide) g1 g3 (fun c4 => ?_) (fun c4 => ?_)
    · have hm := ite_t c4 hm
      refine lv_aload_n C.1 C.2.1 dX12_heardLetter_16 rfl (lv_at hl 0 rfl) ?_
      refine fg_135 C h dX12_heardLetter_17 ?_
      refine lv_iload_n C.1 C.2.1 dX12_heardLetter_20 rfl (lv_at hl 1 rfl) ?_
      obtain ⟨g5, hm⟩ := grd_s hm
      refine al_13 C h dX12_heardLetter_21 g5 ?_
      refine lv_aload_n C.1 C.2.1 dX12_heardLetter_22 rfl (lv_at hl 0 rfl) ?_
      refine fg_136 C h dX12_heardLetter_23 ?_
      refine lv_iload_n C.1 C.2.1 dX12_heardLetter_26 rfl (lv_at hl 1 rfl) ?_
      refine al_12 C h dX12_heardLetter_27 g5 ?_
      refine lv_iload_n C.1 C.2.1 dX12_heardLetter_28 rfl (lv_at hl 2 rfl) ?_
      obtain ⟨r6, e7, hm⟩ := obd_s hm
      refine q_callSi C h (rc_letterAt l D k N (el σ 13 x1) (el σ 12 x1) x2 r6 e7) (cwS 3 C.2.2.1 (gR_letterAt _) rfl rfl rfl hd_letterAt ⟨Nat.le_of_ble_eq_true rfl, Nat.le_of_ble_eq_true rfl⟩) rfl hl.1 rfl (Nat.le_of_ble_eq_true rfl) dX12_heardLetter_29 ⟨Nat.le_of_ble_eq_true rfl, Nat.le_of_ble_eq_true rfl⟩ (fun H locs h => ?_)
      cases hm
      exact q_iret C h hr hlk dX12_heardLetter_32 rfl
    · have hm := ite_f c4 hm
      exact lm_heardLetter_12 (N := N) C hr hlk  (lv_sub hl [] rfl) h hm
end L_heardLetter
section L_jump
variable {p : Program} {l : Launch} {e : Env} {s : State} {m : MethodId} {args : Array Value} {below : List Frame} {meth : Method} {c : Code} {D : va_G} {A : Nat → Prop} {k : Nat → ClassId} {g : Nat → Nat} {N : Nat} {cd : Cond}
set_option maxHeartbeats 4000000 in
set_option maxRecDepth 100000 in
theorem rc_jump (l : Launch) (D : va_G) (k : Nat → ClassId) (g : Nat → Nat) (N : Nat) (σ : St) (x1 : Int) (r : St × Int) (hm : r_jump N σ x1 = some r) : Mi l yX12_jump (.code yX12_jump cX12_jump 2 (some .boolean) :: rW) { frames := 1, cells := 0, slots := 0, locals := 21 } [.ref (g 0), .int (Int32.ofInt x1)] D (TYs k) (mW k g σ) (fun _ => True) Unit (fun v _ => v = Int32.ofInt r.2) (fun _ => mW k g r.1) 0 0 := by
  intro sz
  refine x_met (cc := cX12_jump) (maxL := 2) (ret := (some .boolean)) (by decide) rfl (Nat.le_of_ble_eq_true rfl) ?_
  intro p e s m below meth c ls C hX hsz hr hlk hmn hl h
  have hl : lv_has ls 2 [(0, .ref (g 0)), (1, .int (Int32.ofInt x1))] := hl
  rw [r_jump] at hm
  refine lv_iload_n C.1 C.2.1 dX12_jump_0 rfl (lv_at hl 1 rfl) ?_
  obtain ⟨g1, hm⟩ := grd_s hm
  refine z_if_lt (tgt := 11) C dX12_jump_1 (by decide) g1 (fun c2 => ?_) (fun c2 => ?_)
  · have hm := ite_t c2 hm
    refine lv_iconst (v := Int32.ofInt 0) C.1 C.2.1 dX12_jump_11 (by decide) ?_
    cases hm
    exact q_iret C h hr hlk dX12_jump_12 rfl
  · have hm := ite_f c2 hm
    refine lv_iload_n C.1 C.2.1 dX12_jump_4 rfl (lv_at hl 1 rfl) ?_
    refine lv_ldcw (v := 100000) C.1 C.2.1 C.2.2.2.1 (C.2.2.1 _ (List.mem_cons_of_mem _ wk_852)) dX12_jump_5 ?_
    refine x_topi (y := Int32.ofInt 100000) (by decide) ?_
    refine z_icmp_lt (tgt := 13) C dX12_jump_8 (by decide) g1 (by decide) (fun c3 => ?_) (fun c3 => ?_)
    · have hm := ite_t c3 hm
      refine lv_aload_n C.1 C.2.1 dX12_jump_13 rfl (lv_at hl 0 rfl) ?_
      refine lv_iload_n C.1 C.2.1 dX12_jump_14 rfl (lv_at hl 1 rfl) ?_
      refine fp_115 C h dX12_jump_15 (fun H locs h => ?_)
      refine lv_aload_n C.1 C.2.1 dX12_jump_18 rfl (lv_at hl 0 rfl) ?_
      refine lv_iconst (v := Int32.ofInt 0) C.1 C.2.1 dX12_jump_19 (by decide) ?_
      refine fp_116 C h dX12_jump_20 (fun H locs h => ?_)
      refine lv_aload_n C.1 C.2.1 dX12_jump_23 rfl (lv_at hl 0 rfl) ?_
      obtain ⟨σ4, e5, hm⟩ := bnd_s hm
      rw [e5] at h
      obtain ⟨r6, e7, hm⟩ := obd_s hm
      refine q_callVv C h (rc_swaps l D k g N σ4  r6 e7) (cwV 0 C.2.2.1 (gR_swaps _) rfl rfl rfl hd_swaps ⟨Nat.le_of_ble_eq_true rfl, Nat.le_of_ble_eq_true rfl⟩) rfl hl.1 rfl (Nat.le_of_ble_eq_true rfl) dX12_jump_24 ⟨Nat.le_of_ble_eq_true rfl, Nat.le_of_ble_eq_true rfl⟩ (fun H locs h => ?_)
      refine lv_iconst (v := Int32.ofInt 1) C.1 C.2.1 dX12_jump_27 (by decide) ?_
      cases hm
      exact q_iret C h hr hlk dX12_jump_28 rfl
    · have hm := ite_f c3 hm
      refine lv_iconst (v := Int32.ofInt 0) C.1 C.2.1 dX12_jump_11 (by decide) ?_
      cases hm
      exact q_iret C h hr hlk dX12_jump_12 rfl
end L_jump
section L_mute
variable {p : Program} {l : Launch} {e : Env} {s : State} {m : MethodId} {args : Array Value} {below : List Frame} {meth : Method} {c : Code} {D : va_G} {A : Nat → Prop} {k : Nat → ClassId} {g : Nat → Nat} {N : Nat} {cd : Cond}
set_option maxHeartbeats 4000000 in
set_option maxRecDepth 100000 in
theorem rc_mute (l : Launch) (D : va_G) (k : Nat → ClassId) (g : Nat → Nat) (N : Nat) (σ : St) (x1 : Int) (x2 : Int) (r : St × Int) (hm : r_mute N σ x1 x2 = some r) : Mi l yX12_mute (.code yX12_mute cX12_mute 4 (some .boolean) :: rW) { frames := 1, cells := 0, slots := 0, locals := 21 } [.ref (g 0), .int (Int32.ofInt x1), .int (Int32.ofInt x2)] D (TYs k) (mW k g σ) (fun _ => True) Unit (fun v _ => v = Int32.ofInt r.2) (fun _ => mW k g r.1) 0 0 := by
  intro sz
  refine x_met (cc := cX12_mute) (maxL := 4) (ret := (some .boolean)) (by decide) rfl (Nat.le_of_ble_eq_true rfl) ?_
  intro p e s m below meth c ls C hX hsz hr hlk hmn hl h
  have hl : lv_has ls 4 [(0, .ref (g 0)), (1, .int (Int32.ofInt x1)), (2, .int (Int32.ofInt x2))] := hl
  rw [r_mute] at hm
  refine lv_aload_n C.1 C.2.1 dX12_mute_0 rfl (lv_at hl 0 rfl) ?_
  refine lv_iload_n C.1 C.2.1 dX12_mute_1 rfl (lv_at hl 1 rfl) ?_
  obtain ⟨r1, e2, hm⟩ := obd_s hm
  refine q_callVi C h (rc_isTrack l D k g N σ x1 r1 e2) (cwV 1 C.2.2.1 (gR_isTrack _) rfl rfl rfl hd_isTrack ⟨Nat.le_of_ble_eq_true rfl, Nat.le_of_ble_eq_true rfl⟩) rfl hl.1 rfl (Nat.le_of_ble_eq_true rfl) dX12_mute_2 ⟨Nat.le_of_ble_eq_true rfl, Nat.le_of_ble_eq_true rfl⟩ (fun H locs h => ?_)
  obtain ⟨g3, hm⟩ := grd_s hm
  refine z_if_ne (tgt := 10) C dX12_mute_5 (by decide) g3 (fun c4 => ?_) (fun c4 => ?_)
  · have hm := ite_f c4 hm
    refine lv_aload_n C.1 C.2.1 dX12_mute_10 rfl (lv_at hl 0 rfl) ?_
    refine fg_113 C h dX12_mute_11 ?_
    refine lv_iload_n C.1 C.2.1 dX12_mute_14 rfl (lv_at hl 1 rfl) ?_
    obtain ⟨g5, hm⟩ := grd_s hm
    refine al_26 C h dX12_mute_15 g5 ?_
    obtain ⟨v6, e7, hm⟩ := bnd_s hm
    rw [e7]
    refine lv_istore_n (lv' := [(3, .int (Int32.ofInt v6)), (0, .ref (g 0)), (1, .int (Int32.ofInt x1)), (2, .int (Int32.ofInt x2))]) C.1 C.2.1 dX12_mute_16 rfl hl (by decide) rfl (fun ls hl => ?_)
    refine lv_aload_n C.1 C.2.1 dX12_mute_17 rfl (lv_at hl 1 rfl) ?_
    refine fg_113 C h dX12_mute_18 ?_
    refine lv_iload_n C.1 C.2.1 dX12_mute_21 rfl (lv_at hl 2 rfl) ?_
    refine lv_iload_n C.1 C.2.1 dX12_mute_22 rfl (lv_at hl 3 rfl) ?_
    obtain ⟨g8, hm⟩ := grd_s hm
    refine as_26 C h dX12_mute_23 g5 g8 (fun H locs h => ?_)
    refine lv_iload_n C.1 C.2.1 dX12_mute_24 rfl (lv_at hl 0 rfl) ?_
    obtain ⟨g9, hm⟩ := grd_s hm
    cases hm
    exact q_iret C h hr hlk dX12_mute_25 (isZ_n g9)
  · have hm := ite_t c4 hm
    refine lv_iconst (v := Int32.ofInt 0) C.1 C.2.1 dX12_mute_8 (by decide) ?_
    cases hm
    exact q_iret C h hr hlk dX12_mute_9 rfl
end L_mute
section L_solo
variable {p : Program} {l : Launch} {e : Env} {s : State} {m : MethodId} {args : Array Value} {below : List Frame} {meth : Method} {c : Code} {D : va_G} {A : Nat → Prop} {k : Nat → ClassId} {g : Nat → Nat} {N : Nat} {cd : Cond}
set_option maxHeartbeats 4000000 in
set_option maxRecDepth 100000 in
theorem rc_solo (l : Launch) (D : va_G) (k : Nat → ClassId) (g : Nat → Nat) (N : Nat) (σ : St) (x1 : Int) (x2 : Int) (r : St × Int) (hm : r_solo N σ x1 x2 = some r) : Mi l yX12_solo (.code yX12_solo cX12_solo 4 (some .boolean) :: rW) { frames := 1, cells := 0, slots := 0, locals := 21 } [.ref (g 0), .int (Int32.ofInt x1), .int (Int32.ofInt x2)] D (TYs k) (mW k g σ) (fun _ => True) Unit (fun v _ => v = Int32.ofInt r.2) (fun _ => mW k g r.1) 0 0 := by
  intro sz
  refine x_met (cc := cX12_solo) (maxL := 4) (ret := (some .boolean)) (by decide) rfl (Nat.le_of_ble_eq_true rfl) ?_
  intro p e s m below meth c ls C hX hsz hr hlk hmn hl h
  have hl : lv_has ls 4 [(0, .ref (g 0)), (1, .int (Int32.ofInt x1)), (2, .int (Int32.ofInt x2))] := hl
  rw [r_solo] at hm
  refine lv_aload_n C.1 C.2.1 dX12_solo_0 rfl (lv_at hl 0 rfl) ?_
  refine lv_iload_n C.1 C.2.1 dX12_solo_1 rfl (lv_at hl 1 rfl) ?_
  obtain ⟨r1, e2, hm⟩ := obd_s hm
  refine q_callVi C h (rc_isTrack l D k g N σ x1 r1 e2) (cwV 1 C.2.2.1 (gR_isTrack _) rfl rfl rfl hd_isTrack ⟨Nat.le_of_ble_eq_true rfl, Nat.le_of_ble_eq_true rfl⟩) rfl hl.1 rfl (Nat.le_of_ble_eq_true rfl) dX12_solo_2 ⟨Nat.le_of_ble_eq_true rfl, Nat.le_of_ble_eq_true rfl⟩ (fun H locs h => ?_)
  obtain ⟨g3, hm⟩ := grd_s hm
  refine z_if_ne (tgt := 10) C dX12_solo_5 (by decide) g3 (fun c4 => ?_) (fun c4 => ?_)
  · have hm := ite_f c4 hm
    refine lv_aload_n C.1 C.2.1 dX12_solo_10 rfl (lv_at hl 0 rfl) ?_
    refine fg_114 C h dX12_solo_11 ?_
    refine lv_iload_n C.1 C.2.1 dX12_solo_14 rfl (lv_at hl 1 rfl) ?_
    obtain ⟨g5, hm⟩ := grd_s hm
    refine al_25 C h dX12_solo_15 g5 ?_
    obtain ⟨v6, e7, hm⟩ := bnd_s hm
    rw [e7]
    refine lv_istore_n (lv' := [(3, .int (Int32.ofInt v6)), (0, .ref (g 0)), (1, .int (Int32.ofInt x1)), (2, .int (Int32.ofInt x2))]) C.1 C.2.1 dX12_solo_16 rfl hl (by decide) rfl (fun ls hl => ?_)
    refine lv_aload_n C.1 C.2.1 dX12_solo_17 rfl (lv_at hl 1 rfl) ?_
    refine fg_114 C h dX12_solo_18 ?_
    refine lv_iload_n C.1 C.2.1 dX12_solo_21 rfl (lv_at hl 2 rfl) ?_
    refine lv_iload_n C.1 C.2.1 dX12_solo_22 rfl (lv_at hl 3 rfl) ?_
    obtain ⟨g8, hm⟩ := grd_s hm
    refine as_25 C h dX12_solo_23 g5 g8 (fun H locs h => ?_)
    refine lv_iload_n C.1 C.2.1 dX12_solo_24 rfl (lv_at hl 0 rfl) ?_
    obtain ⟨g9, hm⟩ := grd_s hm
    cases hm
    exact q_iret C h hr hlk dX12_solo_25 (isZ_n g9)
  · have hm := ite_t c4 hm
    refine lv_iconst (v := Int32.ofInt 0) C.1 C.2.1 dX12_solo_8 (by decide) ?_
    cases hm
    exact q_iret C h hr hlk dX12_solo_9 rfl
end L_solo
section L_seed
variable {p : Program} {l : Launch} {e : Env} {s : State} {m : MethodId} {args : Array Value} {below : List Frame} {meth : Method} {c : Code} {D : va_G} {A : Nat → Prop} {k : Nat → ClassId} {g : Nat → Nat} {N : Nat} {cd : Cond}
set_option maxHeartbeats 4000000 in
set_option maxRecDepth 100000 in
theorem rc_seed (l : Launch) (D : va_G) (k : Nat → ClassId) (g : Nat → Nat) (N : Nat) (σ : St) (x1 : Int) (r : St) (hm : r_seed N σ x1 = some r) : Mv l yX12_seed (.code yX12_seed cX12_seed 2 none :: rW) { frames := 0, cells := 0, slots := 0, locals := 0 } [.ref (g 0), .int (Int32.ofInt x1)] D (TYs k) (mW k g σ) (fun _ => True) Unit (fun _ => True) (fun _ => mW k g r) 0 0 := by
  intro sz
  refine x_met (cc := cX12_seed) (maxL := 2) (ret := none) (by decide) rfl (Nat.le_of_ble_eq_true rfl) ?_
  intro p e s m below meth c ls C hX hsz hr hlk hmn hl h
  have hl : lv_has ls 2 [(0, .ref (g 0)), (1, .int (Int32.ofInt x1))] := hl
  rw [r_seed] at hm
  refine lv_aload_n C.1 C.2.1 dX12_seed_0 rfl (lv_at hl 0 rfl) ?_
  refine lv_iload_n C.1 C.2.1 dX12_seed_1 rfl (lv_at hl 1 rfl) ?_
  refine fp_95 C h dX12_seed_2 (fun H locs h => ?_)
  cases hm
  exact q_vret C h hr hlk dX12_seed_5
end L_seed
section L_about
variable {p : Program} {l : Launch} {e : Env} {s : State} {m : MethodId} {args : Array Value} {below : List Frame} {meth : Method} {c : Code} {D : va_G} {A : Nat → Prop} {k : Nat → ClassId} {g : Nat → Nat} {N : Nat} {cd : Cond}
set_option maxHeartbeats 4000000 in
set_option maxRecDepth 100000 in
theorem lm_about_83 {r : St × Int} (C : Cx p s m args c cX12_about RX12 (cd :: rW) D (TYs k) 4) (hr : meth.sig.returnType = (some .int)) (hlk : meth.locks = false) {rec61 : St → Int → Int → Option (St × Int)} (hrec61 : ∀ {ls : Array Slot} {H : Heap} {locs : List Loc} {σ : St} {x2 : Int} {x3 : Int}, lv_has ls 4 [(0, .ref (g 0)), (2, .int (Int32.ofInt x2)), (3, .int (Int32.ofInt x3))] → Hp D A s.heap H locs (mW k g σ) → rec61 σ x2 x3 = some r → W p l e { frames := 0, cells := 0, slots := 0, locals := 0 } s m args below meth c H locs 0 0 (MQ below (va_Qi (fun v (_ : Unit) => v = Int32.ofInt r.2) (fun _ t => PostW D (TYs k) A (mW k g r.1) t) A) args s 0 0 A) (F0 m 61 ls [])) {ls : Array Slot} {H : Heap} {locs : List Loc} {σ : St} {x3 : Int} {s0 : Int} {s1 : Int} (hl : lv_has ls 4 [(0, .ref (g 0)), (3, .int (Int32.ofInt x3))]) (h : Hp D A s.heap H locs (mW k g σ)) (hm : r_about_83 N rec61 σ x3 s0 s1 = some r) : W p l e { frames := 0, cells := 0, slots := 0, locals := 0 } s m args below meth c H locs 0 0 (MQ below (va_Qi (fun v (_ : Unit) => v = Int32.ofInt r.2) (fun _ t => PostW D (TYs k) A (mW k g r.1) t) A) args s 0 0 A) (F0 m 83 ls [.int (Int32.ofInt s0), .int (Int32.ofInt s1)]) := by
  rw [r_about_83] at hm
  refine z_iadd C dX12_about_83 ?_
  obtain ⟨v19, e20, hm⟩ := bnd_s hm
  rw [e20]
  refine lv_istore_n (lv' := [(2, .int (Int32.ofInt v19)), (0, .ref (g 0)), (3, .int (Int32.ofInt x3))]) C.1 C.2.1 dX12_about_84 rfl hl (by decide) rfl (fun ls hl => ?_)
  refine lv_iinc (v := Int32.ofInt (x3 + 1)) (lv' := [(3, .int (Int32.ofInt (x3 + 1))), (2, .int (Int32.ofInt v19)), (0, .ref (g 0))]) C.1 C.2.1 dX12_about_85 hl (k := 2) rfl (c32_add _ _) (by decide) rfl (fun ls hl => ?_)
  refine lv_goto (tgt := 61) C.1 C.2.1 dX12_about_88 (by decide) ?_
  exact hrec61 (lv_sub hl [2, 1, 0] rfl) h hm
set_option maxHeartbeats 4000000 in
set_option maxRecDepth 100000 in
theorem lm_about_61 {r : St × Int} (C : Cx p s m args c cX12_about RX12 (cd :: rW) D (TYs k) 4) (hr : meth.sig.returnType = (some .int)) (hlk : meth.locks = false)  (n : Nat) : ∀ {ls : Array Slot} {H : Heap} {locs : List Loc} {σ : St} {x2 : Int} {x3 : Int}, lv_has ls 4 [(0, .ref (g 0)), (2, .int (Int32.ofInt x2)), (3, .int (Int32.ofInt x3))] → Hp D A s.heap H locs (mW k g σ) → r_about_61 N  n σ x2 x3 = some r → W p l e { frames := 0, cells := 0, slots := 0, locals := 0 } s m args below meth c H locs 0 0 (MQ below (va_Qi (fun v (_ : Unit) => v = Int32.ofInt r.2) (fun _ t => PostW D (TYs k) A (mW k g r.1) t) A) args s 0 0 A) (F0 m 61 ls []) := by
  induction n with
  | zero => intro ls H locs σ x2 x3 hl h hm; cases (show none = some r from hm)
  | succ n hrec61 =>
    intro ls H locs σ x2 x3 hl h hm
    rw [r_about_61] at hm
    refine lv_iload_n C.1 C.2.1 dX12_about_61 rfl (lv_at hl 2 rfl) ?_
    refine lv_bipush (v := Int32.ofInt 8) C.1 C.2.1 dX12_about_62 (by decide) ?_
    obtain ⟨g9, hm⟩ := grd_s hm
    refine z_icmp_ge (tgt := 91) C dX12_about_64 (by decide) g9 (by decide) (fun c10 => ?_) (fun c10 => ?_)
    · have hm := ite_f c10 hm
      refine lv_iload_n C.1 C.2.1 dX12_about_91 rfl (lv_at hl 1 rfl) ?_
      cases hm
      exact q_iret C h hr hlk dX12_about_92 rfl
    · have hm := ite_t c10 hm
      refine lv_iload_n C.1 C.2.1 dX12_about_67 rfl (lv_at hl 1 rfl) ?_
      refine lv_aload_n C.1 C.2.1 dX12_about_68 rfl (lv_at hl 0 rfl) ?_
      refine fg_111 C h dX12_about_69 ?_
      refine lv_iload_n C.1 C.2.1 dX12_about_72 rfl (lv_at hl 2 rfl) ?_
      obtain ⟨g11, hm⟩ := grd_s hm
      refine al_28 C h dX12_about_73 g11 ?_
      refine lv_iconst (v := Int32.ofInt (-1)) C.1 C.2.1 dX12_about_74 (by decide) ?_
      obtain ⟨g12, hm⟩ := grd_s hm
      refine z_icmp_ne (tgt := 82) C dX12_about_75 (by decide) g12 (by decide) (fun c13 => ?_) (fun c13 => ?_)
      · have hm := ite_f c13 hm
        refine lv_iconst (v := Int32.ofInt 1) C.1 C.2.1 dX12_about_82 (by decide) ?_
        exact lm_about_83 (N := N) C hr hlk hrec61 (lv_sub hl [0, 2] rfl) h hm
      · have hm := ite_t c13 hm
        refine lv_iconst (v := Int32.ofInt 0) C.1 C.2.1 dX12_about_78 (by decide) ?_
        refine lv_goto (tgt := 83) C.1 C.2.1 dX12_about_79 (by decide) ?_
        exact lm_about_83 (N := N) C hr hlk hrec61 (lv_sub hl [0, 2] rfl) h hm
set_option maxHeartbeats 4000000 in
set_option maxRecDepth 100000 in
theorem lm_about_118 {r : St × Int} (C : Cx p s m args c cX12_about RX12 (cd :: rW) D (TYs k) 4) (hr : meth.sig.returnType = (some .int)) (hlk : meth.locks = false) {rec95 : St → Int → Int → Option (St × Int)} (hrec95 : ∀ {ls : Array Slot} {H : Heap} {locs : List Loc} {σ : St} {x2 : Int} {x3 : Int}, lv_has ls 4 [(0, .ref (g 0)), (2, .int (Int32.ofInt x2)), (3, .int (Int32.ofInt x3))] → Hp D A s.heap H locs (mW k g σ) → rec95 σ x2 x3 = some r → W p l e { frames := 0, cells := 0, slots := 0, locals := 0 } s m args below meth c H locs 0 0 (MQ below (va_Qi (fun v (_ : Unit) => v = Int32.ofInt r.2) (fun _ t => PostW D (TYs k) A (mW k g r.1) t) A) args s 0 0 A) (F0 m 95 ls [])) {ls : Array Slot} {H : Heap} {locs : List Loc} {σ : St} {x3 : Int} {s0 : Int} {s1 : Int} (hl : lv_has ls 4 [(0, .ref (g 0)), (3, .int (Int32.ofInt x3))]) (h : Hp D A s.heap H locs (mW k g σ)) (hm : r_about_118 N rec95 σ x3 s0 s1 = some r) : W p l e { frames := 0, cells := 0, slots := 0, locals := 0 } s m args below meth c H locs 0 0 (MQ below (va_Qi (fun v (_ : Unit) => v = Int32.ofInt r.2) (fun _ t => PostW D (TYs k) A (mW k g r.1) t) A) args s 0 0 A) (F0 m 118 ls [.int (Int32.ofInt s0), .int (Int32.ofInt s1)]) := by
  rw [r_about_118] at hm
  refine z_iadd C dX12_about_118 ?_
  obtain ⟨v21, e22, hm⟩ := bnd_s hm
  rw [e22]
  refine lv_istore_n (lv' := [(2, .int (Int32.ofInt v21)), (0, .ref (g 0)), (3, .int (Int32.ofInt x3))]) C.1 C.2.1 dX12_about_119 rfl hl (by decide) rfl (fun ls hl => ?_)
  refine lv_iinc (v := Int32.ofInt (x3 + 1)) (lv' := [(3, .int (Int32.ofInt (x3 + 1))), (2, .int (Int32.ofInt v21)), (0, .ref (g 0))]) C.1 C.2.1 dX12_about_120 hl (k := 2) rfl (c32_add _ _) (by decide) rfl (fun ls hl => ?_)
  refine lv_goto (tgt := 95) C.1 C.2.1 dX12_about_123 (by decide) ?_
  exact hrec95 (lv_sub hl [2, 1, 0] rfl) h hm
set_option maxHeartbeats 4000000 in
set_option maxRecDepth 100000 in
theorem lm_about_95 {r : St × Int} (C : Cx p s m args c cX12_about RX12 (cd :: rW) D (TYs k) 4) (hr : meth.sig.returnType = (some .int)) (hlk : meth.locks = false)  (n : Nat) : ∀ {ls : Array Slot} {H : Heap} {locs : List Loc} {σ : St} {x2 : Int} {x3 : Int}, lv_has ls 4 [(0, .ref (g 0)), (2, .int (Int32.ofInt x2)), (3, .int (Int32.ofInt x3))] → Hp D A s.heap H locs (mW k g σ) → r_about_95 N  n σ x2 x3 = some r → W p l e { frames := 0, cells := 0, slots := 0, locals := 0 } s m args below meth c H locs 0 0 (MQ below (va_Qi (fun v (_ : Unit) => v = Int32.ofInt r.2) (fun _ t => PostW D (TYs k) A (mW k g r.1) t) A) args s 0 0 A) (F0 m 95 ls []) := by
  induction n with
  | zero => intro ls H locs σ x2 x3 hl h hm; cases (show none = some r from hm)
  | succ n hrec95 =>
    intro ls H locs σ x2 x3 hl h hm
    rw [r_about_95] at hm
    refine lv_iload_n C.1 C.2.1 dX12_about_95 rfl (lv_at hl 2 rfl) ?_
    refine lv_bipush (v := Int32.ofInt 8) C.1 C.2.1 dX12_about_96 (by decide) ?_
    obtain ⟨g14, hm⟩ := grd_s hm
    refine z_icmp_ge (tgt := 126) C dX12_about_98 (by decide) g14 (by decide) (fun c15 => ?_) (fun c15 => ?_)
    · have hm := ite_f c15 hm
      refine lv_iload_n C.1 C.2.1 dX12_about_126 rfl (lv_at hl 1 rfl) ?_
      cases hm
      exact q_iret C h hr hlk dX12_about_127 rfl
    · have hm := ite_t c15 hm
      refine lv_iload_n C.1 C.2.1 dX12_about_101 rfl (lv_at hl 1 rfl) ?_
      refine lv_aload_n C.1 C.2.1 dX12_about_102 rfl (lv_at hl 0 rfl) ?_
      refine fg_112 C h dX12_about_103 ?_
      refine lv_iload_n C.1 C.2.1 dX12_about_106 rfl (lv_at hl 2 rfl) ?_
      obtain ⟨g16, hm⟩ := grd_s hm
      refine al_27 C h dX12_about_107 g16 ?_
      refine lv_bipush (v := Int32.ofInt (-2)) C.1 C.2.1 dX12_about_108 (by decide) ?_
      obtain ⟨g17, hm⟩ := grd_s hm
      refine z_icmp_ne (tgt := 117) C dX12_about_110 (by decide) g17 (by decide) (fun c18 => ?_) (fun c18 => ?_)
      · have hm := ite_f c18 hm
        refine lv_iconst (v := Int32.ofInt 1) C.1 C.2.1 dX12_about_117 (by decide) ?_
        exact lm_about_118 (N := N) C hr hlk hrec95 (lv_sub hl [0, 2] rfl) h hm
      · have hm := ite_t c18 hm
        refine lv_iconst (v := Int32.ofInt 0) C.1 C.2.1 dX12_about_113 (by decide) ?_
        refine lv_goto (tgt := 118) C.1 C.2.1 dX12_about_114 (by decide) ?_
        exact lm_about_118 (N := N) C hr hlk hrec95 (lv_sub hl [0, 2] rfl) h hm
set_option maxHeartbeats 4000000 in
set_option maxRecDepth 100000 in
theorem rc_about (l : Launch) (D : va_G) (k : Nat → ClassId) (g : Nat → Nat) (N : Nat) (σ : St) (x1 : Int) (r : St × Int) (hm : r_about N σ x1 = some r) : Mi l yX12_about (.code yX12_about cX12_about 4 (some .int) :: rW) { frames := 0, cells := 0, slots := 0, locals := 0 } [.ref (g 0), .int (Int32.ofInt x1)] D (TYs k) (mW k g σ) (fun _ => True) Unit (fun v _ => v = Int32.ofInt r.2) (fun _ => mW k g r.1) 0 0 := by
  intro sz
  refine x_met (cc := cX12_about) (maxL := 4) (ret := (some .int)) (by decide) rfl (Nat.le_of_ble_eq_true rfl) ?_
  intro p e s m below meth c ls C hX hsz hr hlk hmn hl h
  have hl : lv_has ls 4 [(0, .ref (g 0)), (1, .int (Int32.ofInt x1))] := hl
  rw [r_about] at hm
  refine lv_iconst (v := Int32.ofInt 0) C.1 C.2.1 dX12_about_0 (by decide) ?_
  refine lv_istore_n (lv' := [(2, .int (Int32.ofInt 0)), (0, .ref (g 0)), (1, .int (Int32.ofInt x1))]) C.1 C.2.1 dX12_about_1 rfl hl (by decide) rfl (fun ls hl => ?_)
  refine lv_iload_n C.1 C.2.1 dX12_about_2 rfl (lv_at hl 2 rfl) ?_
  obtain ⟨g1, hm⟩ := grd_s hm
  by_cases c2 : x1 = 0
  · refine x_topi (congrArg Int32.ofInt c2) ?_
    have hm := ite_t c2 hm
    refine lv_tableIn (tgt := 44) C.1 C.2.1 dX12_about_3 (by decide) (by decide) rfl (by decide) ?_
    refine lv_aload_n C.1 C.2.1 dX12_about_44 rfl (lv_at hl 1 rfl) ?_
    refine fg_115 C h dX12_about_45 ?_
    cases hm
    exact q_iret C h hr hlk dX12_about_48 rfl
  have hm := ite_f c2 hm
  by_cases c3 : x1 = 1
  · refine x_topi (congrArg Int32.ofInt c3) ?_
    have hm := ite_t c3 hm
    refine lv_tableIn (tgt := 49) C.1 C.2.1 dX12_about_3 (by decide) (by decide) rfl (by decide) ?_
    refine lv_aload_n C.1 C.2.1 dX12_about_49 rfl (lv_at hl 1 rfl) ?_
    refine fg_116 C h dX12_about_50 ?_
    cases hm
    exact q_iret C h hr hlk dX12_about_53 rfl
  have hm := ite_f c3 hm
  by_cases c4 : x1 = 2
  · refine x_topi (congrArg Int32.ofInt c4) ?_
    have hm := ite_t c4 hm
    refine lv_tableIn (tgt := 54) C.1 C.2.1 dX12_about_3 (by decide) (by decide) rfl (by decide) ?_
    refine lv_aload_n C.1 C.2.1 dX12_about_54 rfl (lv_at hl 1 rfl) ?_
    refine fg_34 C h dX12_about_55 ?_
    cases hm
    exact q_iret C h hr hlk dX12_about_58 rfl
  have hm := ite_f c4 hm
  by_cases c5 : x1 = 3
  · refine x_topi (congrArg Int32.ofInt c5) ?_
    have hm := ite_t c5 hm
    refine lv_tableIn (tgt := 59) C.1 C.2.1 dX12_about_3 (by decide) (by decide) rfl (by decide) ?_
    refine lv_iconst (v := Int32.ofInt 0) C.1 C.2.1 dX12_about_59 (by decide) ?_
    refine lv_istore_n (lv' := [(3, .int (Int32.ofInt 0)), (2, .int (Int32.ofInt 0)), (0, .ref (g 0)), (1, .int (Int32.ofInt x1))]) C.1 C.2.1 dX12_about_60 rfl hl (by decide) rfl (fun ls hl => ?_)
    exact lm_about_61 (N := N) C hr hlk  N (lv_sub hl [2, 1, 0] rfl) h hm
  have hm := ite_f c5 hm
  by_cases c6 : x1 = 4
  · refine x_topi (congrArg Int32.ofInt c6) ?_
    have hm := ite_t c6 hm
    refine lv_tableIn (tgt := 93) C.1 C.2.1 dX12_about_3 (by decide) (by decide) rfl (by decide) ?_
    refine lv_iconst (v := Int32.ofInt 0) C.1 C.2.1 dX12_about_93 (by decide) ?_
    refine lv_istore_n (lv' := [(3, .int (Int32.ofInt 0)), (2, .int (Int32.ofInt 0)), (0, .ref (g 0)), (1, .int (Int32.ofInt x1))]) C.1 C.2.1 dX12_about_94 rfl hl (by decide) rfl (fun ls hl => ?_)
    exact lm_about_95 (N := N) C hr hlk  N (lv_sub hl [2, 1, 0] rfl) h hm
  have hm := ite_f c6 hm
  by_cases c7 : x1 = 5
  · refine x_topi (congrArg Int32.ofInt c7) ?_
    have hm := ite_t c7 hm
    refine lv_tableIn (tgt := 128) C.1 C.2.1 dX12_about_3 (by decide) (by decide) rfl (by decide) ?_
    refine lv_aload_n C.1 C.2.1 dX12_about_128 rfl (lv_at hl 1 rfl) ?_
    refine fg_117 C h dX12_about_129 ?_
    cases hm
    exact q_iret C h hr hlk dX12_about_132 rfl
  have hm := ite_f c7 hm
  by_cases c8 : x1 = 6
  · refine x_topi (congrArg Int32.ofInt c8) ?_
    have hm := ite_t c8 hm
    refine lv_tableIn (tgt := 133) C.1 C.2.1 dX12_about_3 (by decide) (by decide) rfl (by decide) ?_
    refine lv_aload_n C.1 C.2.1 dX12_about_133 rfl (lv_at hl 1 rfl) ?_
    refine fg_1 C h dX12_about_134 ?_
    cases hm
    exact q_iret C h hr hlk dX12_about_137 rfl
  have hm := ite_f c8 hm
  refine lv_tableOut (tgt := 138) C.1 C.2.1 dX12_about_3 (by rw [c32_ti g1]; omega) (by decide) ?_
  refine lv_iconst (v := Int32.ofInt (-1)) C.1 C.2.1 dX12_about_138 (by decide) ?_
  cases hm
  exact q_iret C h hr hlk dX12_about_139 rfl
end L_about
