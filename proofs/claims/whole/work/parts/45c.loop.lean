/-! the law's loop, over a relation of the two states -/
def R_law : String := "CycleStudioLaw"
def lw_P (b : Addr) (xs : List Int32) (args : Array Value) (s : State) : Prop := args = #[.ref b] ∧ s.IntsAt b xs ∧ xs.length ≤ 3072 ∧ (Jvm.Cond.and given_1 narrow_1).before args s = true
def lw_Q (_ : Array Value) (s : State) (o : Outcome) (t : State) : Prop := o = .returned (some (.int 1)) ∧ Framed s o t [] 600000 7302250
def lw_Z (below : List Frame) (a : Array Value) (s : State) : State → Prop := fun t => ∃ o, t.status = .running ∧ Ended t below o ∧ lw_Q a s o t
/-- the law's own end, with 1 on the stack, nothing written that was there before, its room as the claim has it -/
theorem lw_ret {p : Program} {l : Launch} {e : Env} {s : State} {m : MethodId} {below : List Frame} {meth : Method} {c : Code} {b : Nat} (hx : p.tables.exec = Jvm.exec) (hb : c.code = code) (hr : meth.sig.returnType = ret) (hlocks : meth.locks = false) {pc : Nat} {H : Heap} {ls : Array Slot} (hdg : decode code pc = .ok (.ireturn, 1)) : W p l e room_1 s m #[Value.ref b] below meth c H [] 600000 7302250 (lw_Z below #[Value.ref b] s) (F0 m pc ls [.int 1]) := by
  intro T hT X
  obtain ⟨fs, hret, hrun, hended, hW, hframe⟩ := X.leave (v := some (.int 1)) (hlocks := hlocks) (fun h => by rw [hr] at h; cases h)
  have hmeth' : T.vm.method? m = some meth := X.method'
  refine ⟨T.setFrames fs, ?_, .returned (some (.int 1)), hrun, hended, rfl, ⟨_, rfl⟩, hW, hframe⟩
  jvm_step X.here [X.here.top, hx, hb, hdg, hmeth', hr, ret, narrow_b1]
  (try refine ⟨rfl, ?_⟩); (try refine ⟨rfl, ?_⟩)
  first | (intro acts; rw [hret _ acts rfl rfl rfl]) | rw [hret _ _ rfl rfl rfl]
  exact Steps.refl _
/-- what holds at the law's entry: the machine, the code, the tables' words (any of lw_tbl by 'hts w (by decide +kernel)'), the script of L ints xs at the cell b, what the Statement gives of the start (any of its parts by flat_of_before) -/
def lw_At (p : Program) (s : State) (m : MethodId) (meth : Method) (c : Code) (b L : Nat) (xs : Nat → Int32) : Prop :=
  p.tables.exec = Jvm.exec ∧ c.code = code ∧ meth.sig.returnType = ret ∧ c.maxLocals = 4 ∧ s.vm.findClass R_law = some m.cls ∧ (∀ w ∈ lw_tbl, w.before #[Value.ref b] s = true) ∧ va_X b L xs s s.heap ∧ b < s.heap.size ∧ meth.locks = false ∧ (Jvm.Cond.and given_1 narrow_1).before #[Value.ref b] s = true
theorem lx_gt {L n : Nat} (h : L < 6 * n + 6) (hn : n ≤ 512) : Int32.ofNat L - 6 < nI (6 * n) := by
  have e1 : Int32.ofNat L - 6 = Int32.ofInt ((L : Int) - 6) := by
    rw [Int32.ofInt_sub]
    rfl
  have e2 : nI (6 * n) = Int32.ofInt ((6 * n : Nat) : Int) := rfl
  rw [e1, e2]
  exact (c32_lt ⟨by omega, by omega⟩ ⟨by omega, by omega⟩).mpr (by omega)
theorem lx_le {L n : Nat} (h : 6 * n + 6 ≤ L) (hL : L ≤ 3072) : ¬ Int32.ofNat L - 6 < nI (6 * n) := by
  have e1 : Int32.ofNat L - 6 = Int32.ofInt ((L : Int) - 6) := by
    rw [Int32.ofInt_sub]
    rfl
  have e2 : nI (6 * n) = Int32.ofInt ((6 * n : Nat) : Int) := rfl
  rw [e1, e2]
  exact fun hc => absurd ((c32_lt ⟨by omega, by omega⟩ ⟨by omega, by omega⟩).mp hc) (by omega)
theorem lx_out {cells slots : Nat} {v1 v2 : Value} {p : Program} {l : Launch} {e : Env} {s : State} {m : MethodId} {below : List Frame} {meth : Method} {c : Code} {H : Heap} {locs : List Loc} {ls : Array Slot} {D : va_G} {k : Nat → ClassId} {b L : Nat} {xs : Nat → Int32} (C : Cx p s m #[Value.ref b] c code RL lw_tbl D (TYs k) 4) (hX : va_X b L xs s s.heap) (hbl : b < s.heap.size) (hr : meth.sig.returnType = ret) (hlk : meth.locks = false) {i : Int32} (hi : Int32.ofNat L - 6 < i) (hc : cells ≤ 600000) (hs : slots ≤ 7302250) (hl : lv_has ls 4 [(3, .int i), (2, v2), (1, v1), (0, .ref b)]) (h : Hp D (fun q => s.heap.size ≤ q) s.heap H locs []) : W p l e room_1 s m #[Value.ref b] below meth c H locs cells slots (lw_Z below #[Value.ref b] s) (F0 m 18 ls []) := by
  refine lv_iload_n C.1 C.2.1 dL_law_18 rfl (lv_at hl 0 rfl) ?_
  refine lv_aload_n C.1 C.2.1 dL_law_19 rfl (lv_at hl 3 rfl) ?_
  refine va_slen C.1 C.2.1 hX hbl (Nat.not_le.mpr hbl) h.2.2.1 dL_law_20 ?_
  refine lv_bipush (v := 6) C.1 C.2.1 dL_law_21 (by decide) ?_
  refine lv_isub C.1 C.2.1 dL_law_23 ?_
  refine lv_icmp_gt (tgt := 680) C.1 C.2.1 dL_law_24 (by decide) (fun _ => ?_) (fun c => absurd hi c)
  refine lv_iconst (v := 1) C.1 C.2.1 dL_law_680 (by decide) ?_
  refine W.widen (k := 600000) (n := 7302250) hc hs ?_
  refine va_forget (fun q hq => h.2.2.1.2.2 q hq) ?_
  exact lw_ret C.1 C.2.1 hr hlk dL_law_681
set_option maxHeartbeats 4000000 in
set_option maxRecDepth 100000 in
theorem ld_all {Q : State → Prop} {p : Program} {l : Launch} {e : Env} {s : State} {m : MethodId} {below : List Frame} {meth : Method} {c : Code} {H : Heap} {locs : List Loc} {ls : Array Slot} {D : va_G} {A : Nat → Prop} {k : Nat → ClassId} {b L z mi n N K : Nat} {aK aV g g2 : Nat → Nat} {xs : Nat → Int32} {π : Sh} {σ τ : St} (C : Cx p s m #[Value.ref b] c code RL lw_tbl D (TYs k) 4) (hX : va_X b L xs s s.heap) (hbl : b < s.heap.size) (hbA : ¬ A b) (hE : Ev z mi aK aV A s s.heap) (hL : 6 * n + 6 ≤ L) (hL2 : L < 2 ^ 31) (hK : K ≤ 2449975) (hn : n < 512) {Rl : Nat → Sh → St → St → Prop} (hS : Rls N Rl) (hR : Rl n π σ τ) (hl : lv_has ls 4 [(3, .int (nI (6 * n))), (2, .ref (g2 0)), (1, rfv g 0), (0, .ref b)]) (h : Hp D A s.heap H locs (cW k z g π σ ++ mW k g2 τ)) (kk : ∀ (H1 : Heap) (locs1 : List Loc) (g1 : Nat → Nat) (π1 : Sh) (σ1 τ1 : St), Rl (n + 1) π1 σ1 τ1 → rfv g1 0 = rfv g 0 → Hp D A s.heap H1 locs1 (cW k z g1 π1 σ1 ++ mW k g2 τ1) → W p l e room_1 s m #[Value.ref b] below meth c H1 locs1 (nn π1 + 98) (sw π1 + K) Q (F0 m 674 ls [])) : W p l e room_1 s m #[Value.ref b] below meth c H locs (nn π + 98) (sw π + K) Q (F0 m 33 ls [.int (xs (6 * n) &&& 31)]) := by
  obtain ⟨j, hj, ej⟩ := pk_andE (xs (6 * n)) (m := 31) 5 (by decide)
  refine x_topi ej ?_
  have hj : j < 32 := hj
  have hB := hS.1 n (by omega)
  have hB2 := hS.1 (n + 1) (by omega)
  obtain ⟨s0, s1, s2, s3, s4, s5, s6, s7, s8, s9, s10, s11, s12, s13, s14, s15, s16, s17⟩ := hS.2.2 n hn
  rcases (show j = 0 ∨ j = 1 ∨ j = 2 ∨ j = 3 ∨ j = 4 ∨ j = 5 ∨ j = 6 ∨ j = 7 ∨ j = 8 ∨ j = 9 ∨ j = 10 ∨ j = 11 ∨ j = 12 ∨ j = 13 ∨ j = 14 ∨ j = 15 ∨ j = 16 ∨ j = 17 ∨ 18 ≤ j by omega) with rfl | rfl | rfl | rfl | rfl | rfl | rfl | rfl | rfl | rfl | rfl | rfl | rfl | rfl | rfl | rfl | rfl | rfl | hg
  · refine lv_tableIn (tgt := 120) C.1 C.2.1 dL_law_33 (by decide) (by decide) rfl (by decide) ?_
    exact ld_feed C hX hbl hbA hE hL hL2 hK hR hB hB2 hl h s0 kk
  · refine lv_tableIn (tgt := 183) C.1 C.2.1 dL_law_33 (by decide) (by decide) rfl (by decide) ?_
    exact ld_end C hX hbl hbA hE hL hL2 hK hR hB hB2 hl h s1 kk
  · refine lv_tableIn (tgt := 206) C.1 C.2.1 dL_law_33 (by decide) (by decide) rfl (by decide) ?_
    exact ld_read C hX hbl hbA hE hL hL2 hK hR hB hB2 hl h s2 kk
  · refine lv_tableIn (tgt := 219) C.1 C.2.1 dL_law_33 (by decide) (by decide) rfl (by decide) ?_
    exact ld_hang C hX hbl hbA hE hL hL2 hK hR hB hB2 hl h s3 kk
  · refine lv_tableIn (tgt := 242) C.1 C.2.1 dL_law_33 (by decide) (by decide) rfl (by decide) ?_
    exact ld_hush C hX hbl hbA hE hL hL2 hK hR hB hB2 hl h s4 kk
  · refine lv_tableIn (tgt := 265) C.1 C.2.1 dL_law_33 (by decide) (by decide) rfl (by decide) ?_
    exact ld_told C hX hbl hbA hE hL hL2 hK hR hB hB2 hl h s5 kk
  · refine lv_tableIn (tgt := 288) C.1 C.2.1 dL_law_33 (by decide) (by decide) rfl (by decide) ?_
    exact ld_bound C hX hbl hbA hE hL hL2 hK hR hB hB2 hl h s6 kk
  · refine lv_tableIn (tgt := 321) C.1 C.2.1 dL_law_33 (by decide) (by decide) rfl (by decide) ?_
    exact ld_ask C hX hbl hbA hE hL hL2 hK hR hB hB2 hl h s7 kk
  · refine lv_tableIn (tgt := 354) C.1 C.2.1 dL_law_33 (by decide) (by decide) rfl (by decide) ?_
    exact ld_event C hX hbl hbA hE hL hL2 hK hR hB hB2 hl h s8 kk
  · refine lv_tableIn (tgt := 387) C.1 C.2.1 dL_law_33 (by decide) (by decide) rfl (by decide) ?_
    exact ld_letter C hX hbl hbA hE hL hL2 hK hR hB hB2 hl h s9 kk
  · refine lv_tableIn (tgt := 420) C.1 C.2.1 dL_law_33 (by decide) (by decide) rfl (by decide) ?_
    exact ld_play C hX hbl hbA hE hL hL2 hK hR hB hB2 hl h s10 kk
  · refine lv_tableIn (tgt := 443) C.1 C.2.1 dL_law_33 (by decide) (by decide) rfl (by decide) ?_
    exact ld_heard C hX hbl hbA hE hL hL2 hK hR hB hB2 hl h s11 kk
  · refine lv_tableIn (tgt := 476) C.1 C.2.1 dL_law_33 (by decide) (by decide) rfl (by decide) ?_
    exact ld_heardLetter C hX hbl hbA hE hL hL2 hK hR hB hB2 hl h s12 kk
  · refine lv_tableIn (tgt := 509) C.1 C.2.1 dL_law_33 (by decide) (by decide) rfl (by decide) ?_
    exact ld_jump C hX hbl hbA hE hL hL2 hK hR hB hB2 hl h s13 kk
  · refine lv_tableIn (tgt := 532) C.1 C.2.1 dL_law_33 (by decide) (by decide) rfl (by decide) ?_
    by_cases hz : xs (6 * n + 2) = 0
    · exact ld_mute0 C hX hbl hbA hE hL hL2 hK hR hB hB2 hl h s14 hz kk
    · exact ld_mute1 C hX hbl hbA hE hL hL2 hK hR hB hB2 hl h s14 hz kk
  · refine lv_tableIn (tgt := 581) C.1 C.2.1 dL_law_33 (by decide) (by decide) rfl (by decide) ?_
    by_cases hz : xs (6 * n + 2) = 0
    · exact ld_solo0 C hX hbl hbA hE hL hL2 hK hR hB hB2 hl h s15 hz kk
    · exact ld_solo1 C hX hbl hbA hE hL hL2 hK hR hB hB2 hl h s15 hz kk
  · refine lv_tableIn (tgt := 630) C.1 C.2.1 dL_law_33 (by decide) (by decide) rfl (by decide) ?_
    exact ld_seed C hX hbl hbA hE hL hL2 hK hR hB hB2 hl h s16 kk
  · refine lv_tableIn (tgt := 651) C.1 C.2.1 dL_law_33 (by decide) (by decide) rfl (by decide) ?_
    exact ld_about C hX hbl hbA hE hL hL2 hK hR hB hB2 hl h s17 kk
  · refine lv_tableOut (tgt := 674) C.1 C.2.1 dL_law_33 (Or.inr (by rw [nI_toInt (by omega)]; omega)) (by decide) ?_
    exact kk H locs g π σ τ (hS.2.1 n π σ τ hn hR) rfl h
set_option maxHeartbeats 4000000 in
set_option maxRecDepth 100000 in
theorem ld_loop {Rl : Nat → Sh → St → St → Prop} {p : Program} {l : Launch} {e : Env} {s : State} {m : MethodId} {below : List Frame} {meth : Method} {c : Code} {D : va_G} {k : Nat → ClassId} {b L z mi N K : Nat} {aK aV g2 : Nat → Nat} {xs : Nat → Int32} (C : Cx p s m #[Value.ref b] c code RL lw_tbl D (TYs k) 4) (hX : va_X b L xs s s.heap) (hbl : b < s.heap.size) (hr : meth.sig.returnType = ret) (hlk : meth.locks = false) (hE : Ev z mi aK aV (fun q => s.heap.size ≤ q) s s.heap) (hL : L ≤ 3072) (hK : K ≤ 2449975) (hS : Rls N Rl) : ∀ (d n : Nat) (H : Heap) (locs : List Loc) (ls : Array Slot) (g : Nat → Nat) (π : Sh) (σ τ : St), n + d = 512 → Rl n π σ τ → lv_has ls 4 [(3, .int (nI (6 * n))), (2, .ref (g2 0)), (1, rfv g 0), (0, .ref b)] → Hp D (fun q => s.heap.size ≤ q) s.heap H locs (cW k z g π σ ++ mW k g2 τ) → W p l e room_1 s m #[Value.ref b] below meth c H locs (nn π + 98) (sw π + K) (lw_Z below #[Value.ref b] s) (F0 m 18 ls [])
  | 0, n, H, locs, ls, g, π, σ, τ, hd, hR, hl, h => by
    obtain ⟨-, hn1, hs1⟩ := hS.1 n (by omega) π σ τ hR
    exact lx_out C hX hbl hr hlk (lx_gt (by omega) (by omega)) (by omega) (by omega) hl h.nil
  | d + 1, n, H, locs, ls, g, π, σ, τ, hd, hR, hl, h => by
    obtain ⟨-, hn1, hs1⟩ := hS.1 n (by omega) π σ τ hR
    by_cases h6 : L < 6 * n + 6
    · exact lx_out C hX hbl hr hlk (lx_gt h6 (by omega)) (by omega) (by omega) hl h.nil
    refine lv_iload_n C.1 C.2.1 dL_law_18 rfl (lv_at hl 0 rfl) ?_
    refine lv_aload_n C.1 C.2.1 dL_law_19 rfl (lv_at hl 3 rfl) ?_
    refine va_slen C.1 C.2.1 hX hbl (Nat.not_le.mpr hbl) h.2.2.1 dL_law_20 ?_
    refine lv_bipush (v := 6) C.1 C.2.1 dL_law_21 (by decide) ?_
    refine lv_isub C.1 C.2.1 dL_law_23 ?_
    refine lv_icmp_gt (tgt := 680) C.1 C.2.1 dL_law_24 (by decide) (fun c => absurd c (lx_le (by omega) hL)) (fun _ => ?_)
    refine lv_aload_n C.1 C.2.1 dL_law_27 rfl (lv_at hl 3 rfl) ?_
    refine lv_iload_n C.1 C.2.1 dL_law_28 rfl (lv_at hl 0 rfl) ?_
    refine va_sld C.1 C.2.1 hX hbl (Nat.not_le.mpr hbl) h.2.2.1 (i := nI (6 * n)) (vp_in_nI (n := 6 * n) (by omega) (by omega)) dL_law_29 ?_
    refine x_topi (y := xs (6 * n)) (congrArg xs (nI_clamp (n := 6 * n) (by omega))) ?_
    refine lv_bipush (v := 31) C.1 C.2.1 dL_law_30 (by decide) ?_
    refine lv_iand C.1 C.2.1 dL_law_32 ?_
    refine ld_all C hX hbl (Nat.not_le.mpr hbl) hE (by omega) (by omega) hK (by omega) hS hR hl h (fun H1 locs1 g1 π1 σ1 τ1 hR1 hg1 h1 => ?_)
    refine lv_iinc (v := nI (6 * (n + 1))) (lv' := [(3, .int (nI (6 * (n + 1)))), (2, .ref (g2 0)), (1, rfv g 0), (0, .ref b)]) C.1 C.2.1 dL_law_674 hl (k := 0) rfl (nI_add (6 * n) 6) (by decide) rfl (fun ls hl => ?_)
    refine lv_goto (tgt := 18) C.1 C.2.1 dL_law_677 (by decide) ?_
    rw [← hg1] at hl
    exact ld_loop C hX hbl hr hlk hE hL hK hS d (n + 1) H1 locs1 ls g1 π1 σ1 τ1 (by omega) hR1 hl h1
