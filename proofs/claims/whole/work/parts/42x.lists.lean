/-! rows and contracts of the JDK's lists and copies -/
theorem cat_r (a : Nat) : (Value.ref a).category = 1 := rfl
def eda (z : Nat) (g : Nat → Nat) (v : Int) : Nat := if v < 0 then z else g v.toNat
theorem eda_s {z : Nat} {g : Nat → Nat} {v : Int} (h : 0 ≤ v) : Value.ref (eda z g v) = rfv g v := by rw [rfv_s h, eda, if_neg (by omega)]
theorem eda_n {z : Nat} {g : Nat → Nat} {v : Int} (h : v < 0) : eda z g v = z := by rw [eda, if_pos h]
theorem cv3 (z : Nat) (g : Nat → Nat) (i : Nat) (v : Int) : cv z g i 3 v = .ref (eda z g v) := by
  show (if v < 0 then Value.ref z else .ref (g v.toNat)) = _
  unfold eda
  split <;> rfl
theorem ft0_0 : TJx4a65c 0 = ("java/util/AbstractList", "modCount", "I", false) := by decide +kernel
theorem ft0_1 : TJx4a65c 1 = ("java/util/ArrayList", "elementData", "[Ljava/lang/Object;", false) := by decide +kernel
theorem ft0_2 : TJx4a65c 2 = ("java/util/ArrayList", "size", "I", false) := by decide +kernel
theorem ishr1 {x : Int} (h : i32 x) : ishr x 1 = x / 2 := by
  rw [ishr, pk_shr _ _ 1 (by decide), c32_ti h, Int.shiftRight_eq_div_pow]
  rfl
section LR
variable {p : Program} {l : Launch} {e : Env} {R : Room} {s : State} {m : MethodId} {args : Array Value} {below : List Frame} {meth : Method} {c : Code} {H : Heap} {locs : List Loc} {cells slots : Nat} {Q : State → Prop}
variable {cc : ByteArray} {pc : Nat} {ls : Array Slot} {rest : List Value} {D : va_G} {A : Nat → Prop} {k : Nat → ClassId} {H0 : Heap} {cd : Cond} {nL : Nat} {z mi : Nat} {aK aV g : Nat → Nat} {π : Sh} {σ : St} {x v a b i n : Int}
theorem lg_size (C : Cx p s m args c cc RJx4a65c (cd :: cWd) D (TYs k) nL) (h : Hp D A H0 H locs (cW k z g π σ)) (hO : ob π x 0) (hdg : decode cc pc = .ok (.getfield 48, 3)) (kk : W p l e R s m args below meth c H locs cells slots Q (F0 m (pc + 3) ls (.int (Int32.ofInt (fl σ 2 x)) :: rest))) : W p l e R s m args below meth c H locs cells slots Q (F0 m pc ls (rfv g x :: rest)) :=
  c_get C h (kd := 0) hO rfl (by decide) ft0_2 (by decide) (by decide) rfl cU_Jx4a65c (List.mem_cons_of_mem _ wl_Jx4a65c_48) hdg kk
theorem lg_ed (C : Cx p s m args c cc RJx4a65c (cd :: cWd) D (TYs k) nL) (h : Hp D A H0 H locs (cW k z g π σ)) (hO : ob π x 0) (hdg : decode cc pc = .ok (.getfield 9, 3)) (kk : W p l e R s m args below meth c H locs cells slots Q (F0 m (pc + 3) ls (.ref (eda z g (fl σ 1 x)) :: rest))) : W p l e R s m args below meth c H locs cells slots Q (F0 m pc ls (rfv g x :: rest)) :=
  c_get C h (kd := 3) hO rfl (by decide) ft0_1 (by decide) (by decide) rfl cU_Jx4a65c (List.mem_cons_of_mem _ wl_Jx4a65c_9) hdg (by rw [cv3]; exact kk)
theorem lg_mod (C : Cx p s m args c cc RJx4a65c (cd :: cWd) D (TYs k) nL) (h : Hp D A H0 H locs (cW k z g π σ)) (hO : ob π x 0) (hdg : decode cc pc = .ok (.getfield 63, 3)) (kk : W p l e R s m args below meth c H locs cells slots Q (F0 m (pc + 3) ls (.int (Int32.ofInt (fl σ 0 x)) :: rest))) : W p l e R s m args below meth c H locs cells slots Q (F0 m pc ls (rfv g x :: rest)) := by
  rw [rfv_s hO.1]
  exact x_getS C h x.toNat 0 hdg (cW_ob k z g σ hO (by decide)) (cFs_at z g σ hO.1 (by decide) (rfl : cKd 0 0 = 0)) rfl cU_Jx4a65c (by decide) (by rw [ft0_0]; exact List.mem_cons_of_mem _ wl_Jx4a65c_63) (by rw [ft0_0]; exact List.mem_cons_of_mem _ wz_same) kk
theorem lp_size (C : Cx p s m args c cc RJx4a65c (cd :: cWd) D (TYs k) nL) (h : Hp D A H0 H locs (cW k z g π σ)) (hO : ob π x 0) (hdg : decode cc pc = .ok (.putfield 48, 3)) (kk : ∀ (H1 : Heap) (locs1 : List Loc), Hp D A H0 H1 locs1 (cW k z g π (sf σ 2 x v)) → W p l e R s m args below meth c H1 locs1 cells slots Q (F0 m (pc + 3) ls rest)) : W p l e R s m args below meth c H locs cells slots Q (F0 m pc ls (.int (Int32.ofInt v) :: rfv g x :: rest)) :=
  c_put C h (kd := 0) (ty := .int) hO rfl (by decide) ft0_2 (by decide +kernel) (by decide) (by decide) rfl cU_Jx4a65c (List.mem_cons_of_mem _ wl_Jx4a65c_48) tyJx4a65c_ok nmJx4a65c rfl rfl rfl hdg kk
theorem lp_ed (C : Cx p s m args c cc RJx4a65c (cd :: cWd) D (TYs k) nL) (h : Hp D A H0 H locs (cW k z g π σ)) (hO : ob π x 0) (hv : 0 ≤ v) (hdg : decode cc pc = .ok (.putfield 9, 3)) (kk : ∀ (H1 : Heap) (locs1 : List Loc), Hp D A H0 H1 locs1 (cW k z g π (sf σ 1 x v)) → W p l e R s m args below meth c H1 locs1 cells slots Q (F0 m (pc + 3) ls rest)) : W p l e R s m args below meth c H locs cells slots Q (F0 m pc ls (rfv g v :: rfv g x :: rest)) :=
  c_put C h (kd := 3) (ty := .array (.object "java/lang/Object")) hO rfl (by decide) ft0_1 (by decide +kernel) (by decide) (by decide) rfl cU_Jx4a65c (List.mem_cons_of_mem _ wl_Jx4a65c_9) tyJx4a65c_ok nmJx4a65c (by rw [cv3, eda_s hv]) (rfv_narA _ _ _) (rfv_fitA _ _ _) hdg kk
theorem lp_mod (C : Cx p s m args c cc RJx4a65c (cd :: cWd) D (TYs k) nL) (h : Hp D A H0 H locs (cW k z g π σ)) (hO : ob π x 0) (hdg : decode cc pc = .ok (.putfield 63, 3)) (kk : ∀ (H1 : Heap) (locs1 : List Loc), Hp D A H0 H1 locs1 (cW k z g π (sf σ 0 x v)) → W p l e R s m args below meth c H1 locs1 cells slots Q (F0 m (pc + 3) ls rest)) : W p l e R s m args below meth c H locs cells slots Q (F0 m pc ls (.int (Int32.ofInt v) :: rfv g x :: rest)) := by
  rw [rfv_s hO.1]
  refine x_putS C h x.toNat 0 (ty0 := tyJx4a65c) hdg (cW_ob k z g σ hO (by decide)) rfl cU_Jx4a65c (by decide) (by rw [ft0_0]; exact List.mem_cons_of_mem _ wl_Jx4a65c_63) (by rw [ft0_0]; exact List.mem_cons_of_mem _ wz_same) tyJx4a65c_ok nmJx4a65c (by rw [cFs_len]; decide) (by rw [ft0_0]) (by rw [show tyJx4a65c 0 = .int by decide +kernel]; rfl) (by rw [show tyJx4a65c 0 = .int by decide +kernel]; rfl) (fun H1 locs1 h1 => kk H1 locs1 ?_)
  have e : Value.int (Int32.ofInt v) = cv z g x.toNat 0 v := rfl
  rw [e, cW_sf k z g σ hO (by decide) (c := 0) (j := 0) (kd := 0) (by decide) rfl v] at h1
  exact h1
theorem l_alenZ (C : Cx p s m args c cc RJx4a65c (cd :: cWd) D (TYs k) nL) (hE : Ev z mi aK aV A s s.heap) (h : Hp D A s.heap H locs (cW k z g π σ)) (hdg : decode cc pc = .ok (.arraylength, 1)) (kk : W p l e R s m args below meth c H locs cells slots Q (F0 m (pc + 1) ls (.int (Int32.ofInt 0) :: rest))) : W p l e R s m args below meth c H locs cells slots Q (F0 m pc ls (.ref z :: rest)) := by
  obtain ⟨h0, hA, scr, h1, h2, h3, h4⟩ := hE.2.2.2.2.2.2.2.2.2.2
  exact W.alen (n := Int32.ofInt 0) C.1 C.2.1 (by rw [h.2.2.1.2.1 z h0 hA]; exact h1) h2 (by rw [h4]; rfl) rfl rfl hdg kk
theorem c_qastO {own : String} {Ts : List Cond} (C : Cx p s m args c cc own Ts D (TYs k) nL) (hE : Ev z mi aK aV A s s.heap) (h : Hp D A H0 H locs (cW k z g π σ)) (hO : ob π x 27) (hi : ina π x i) (hv : anyO π v) (hdg : decode cc pc = .ok (.aastore, 1)) (kk : ∀ (H1 : Heap) (locs1 : List Loc), Hp D A H0 H1 locs1 (cW k z g π (se σ x i v)) → W p l e R s m args below meth c H1 locs1 cells slots Q (F0 m (pc + 1) ls rest)) : W p l e R s m args below meth c H locs cells slots Q (F0 m pc ls (rfv g v :: .int (Int32.ofInt i) :: rfv g x :: rest)) := by
  have ha := cW_ar k z g σ (t := 7) hO
  rw [cAr_q g σ (by decide)] at ha
  have hv0 : 0 ≤ v := by rcases hv with h | h | h <;> exact h.1
  have go : ∀ (c0 : Nat) (r0 : vw_C), vwCl[c0]? = some r0 → c0 < 20 → va_Nw (.castable r0.1 "java/lang/Object") s → ob π v c0 → W p l e R s m args below meth c H locs cells slots Q (F0 m pc ls (rfv g v :: .int (Int32.ofInt i) :: rfv g x :: rest)) := by
    intro c0 r0 hc h20 hca hb
    rw [rfv_s hv0, rfv_s hO.1]
    refine va_astqO C.1 C.2.1 C.2.2.2.2.1 h.1 h.2.1 h.2.2.1 x.toNat 7 v.toNat c0 ha rfl hca (cW_ob k z g σ hb h20) hc (ina_in hi) hdg (fun H1 locs1 b1 b2 b3 => kk H1 locs1 ?_)
    have h1 : Hp D A H0 H1 locs1 _ := ⟨b1, b2, b3, h.2.2.2⟩
    rw [← rfo_s (g := g) hv0, ina_cl hi, up_q g σ hO.1 hi.1, cW_se k z g σ (t := 7) hO (cAr_q g _ (by decide))] at h1
    exact h1
  rcases hv with hb | hb | hb
  · exact go 1 _ rfl (by decide) hE.2.2.2.2.1 hb
  · exact go 5 _ rfl (by decide) hE.2.2.2.2.2.2.1 hb
  · exact go 10 _ rfl (by decide) hE.2.2.2.2.2.1 hb
theorem c_qnull {own : String} {Ts : List Cond} (C : Cx p s m args c cc own Ts D (TYs k) nL) (h : Hp D A H0 H locs (cW k z g π σ)) (hO : ob π x 27) (hi : ina π x i) (hdg : decode cc pc = .ok (.aastore, 1)) (kk : ∀ (H1 : Heap) (locs1 : List Loc), Hp D A H0 H1 locs1 (cW k z g π (se σ x i (-1))) → W p l e R s m args below meth c H1 locs1 cells slots Q (F0 m (pc + 1) ls rest)) : W p l e R s m args below meth c H locs cells slots Q (F0 m pc ls (rfv g (-1) :: .int (Int32.ofInt i) :: rfv g x :: rest)) := by
  rw [rfv_s hO.1]
  have ha := cW_ar k z g σ (t := 7) hO
  rw [cAr_q g σ (by decide)] at ha
  have hv : (-1 : Int) < 0 := by decide
  rw [rfv_n hv]
  refine x_qastN C h x.toNat 7 hdg ha rfl (ina_in hi) (fun H1 locs1 h1 => kk H1 locs1 ?_)
  rw [← rfo_n (g := g) hv, ina_cl hi, up_q g σ hO.1 hi.1, cW_se k z g σ (t := 7) hO (cAr_q g _ (by decide))] at h1
  exact h1
theorem cAr_cp {g : Nat → Nat} {σ : St} {t q : Nat} {a b n : Int} (h : a ≠ (q : Int)) : cAr g (cpe σ a b n) t q = cAr g σ t q := by
  have e : ∀ j : Nat, el (cpe σ a b n) q j = el σ q j := fun j => by
    have : ¬ ((q : Int) = a) := fun x => h x.symm
    simp [el, cpe, this]
  simp only [cAr, e]
theorem cW_cpe (k : Nat → ClassId) (z : Nat) (g : Nat → Nat) {π : Sh} (σ : St) {a b n : Int} {t : Nat} (h : ob π a (20 + t)) {X : (Nat → Int32) ⊕ (Nat → Int64) ⊕ (Nat → UInt32) ⊕ (Nat → UInt64) ⊕ (Nat → Option Nat)} (hX : cAr g (cpe σ a b n) t a.toNat = X) : (cW k z g π σ).set a.toNat (g a.toNat, .inl (k t, (ln π a).toNat, X)) = cW k z g π (cpe σ a b n) := by
  have e := toNat_c h.1
  refine cW_set (by have := h.2.1; omega) ?_ ?_
  · rw [ccell, e, h.2.2, if_neg (by omega), Nat.add_sub_cancel_left, hX]
  · intro q hq hne
    have : a ≠ (q : Int) := by omega
    unfold ccell
    rw [cAr_cp this]
    rfl
theorem cpy_i (σ : St) {a b n : Int} (ha : 0 ≤ a) (hb : 0 ≤ b) (hn : 0 ≤ n) : va_cpy (fun j : Nat => Int32.ofInt (el σ (b.toNat : Nat) j)) (fun j : Nat => Int32.ofInt (el σ (a.toNat : Nat) j)) 0 0 n.toNat = fun j : Nat => Int32.ofInt (el (cpe σ a b n) (a.toNat : Nat) j) := by
  rw [toNat_c ha, toNat_c hb]
  funext j
  simp only [va_cpy, el, cpe]
  by_cases hj : j < n.toNat
  · have h1 : (0 ≤ j ∧ j < 0 + n.toNat) := by omega
    have h2 : (True ∧ (0 : Int) ≤ j ∧ (j : Int) < n) := ⟨trivial, by omega, by omega⟩
    rw [if_pos h1, if_pos h2]
    congr 2
    simp
  · have h1 : ¬ (0 ≤ j ∧ j < 0 + n.toNat) := by omega
    have h2 : ¬ (True ∧ (0 : Int) ≤ j ∧ (j : Int) < n) := fun q => by omega
    rw [if_neg h1, if_neg h2]
theorem cpy_q (g : Nat → Nat) (σ : St) {a b n : Int} (ha : 0 ≤ a) (hb : 0 ≤ b) (hn : 0 ≤ n) : va_cpy (fun j : Nat => rfo g (el σ (b.toNat : Nat) j)) (fun j : Nat => rfo g (el σ (a.toNat : Nat) j)) 0 0 n.toNat = fun j : Nat => rfo g (el (cpe σ a b n) (a.toNat : Nat) j) := by
  rw [toNat_c ha, toNat_c hb]
  funext j
  simp only [va_cpy, el, cpe]
  by_cases hj : j < n.toNat
  · have h1 : (0 ≤ j ∧ j < 0 + n.toNat) := by omega
    have h2 : (True ∧ (0 : Int) ≤ j ∧ (j : Int) < n) := ⟨trivial, by omega, by omega⟩
    rw [if_pos h1, if_pos h2]
    congr 2
    simp
  · have h1 : ¬ (0 ≤ j ∧ j < 0 + n.toNat) := by omega
    have h2 : ¬ (True ∧ (0 : Int) ≤ j ∧ (j : Int) < n) := fun q => by omega
    rw [if_neg h1, if_neg h2]
theorem c32_0cl : (Int32.ofInt 0).toNatClampNeg = 0 := by decide
theorem c_cpyI (C : Cx p s m args c cc RJ7 (cd :: cWd) D (TYs k) nL) (h : Hp D A H0 H locs (cW k z g π σ)) (hsz : ls.size = nL) (ha : ob π a 22) (hb : ob π b 22) (hn : 0 ≤ n) (hn2 : n < 2147483648) (h1 : n ≤ ln π b) (h2 : n ≤ ln π a) (hf : 1 ≤ R.frames) (hlo : (rest.map fun v => v.category).sum + (nativeFrameWords "java/lang/System" "arraycopy" 5 + 11) ≤ R.locals) (hdg : decode cc pc = .ok (.invokestatic 150, 3))
    (kk : ∀ (H1 : Heap) (locs1 : List Loc), Hp D A H0 H1 locs1 (cW k z g π (cpe σ a b n)) → W p l e R s m args below meth c H1 locs1 cells slots Q (F0 m (pc + 3) ls rest)) : W p l e R s m args below meth c H locs cells slots Q (F0 m pc ls (.int (Int32.ofInt n) :: .int (Int32.ofInt 0) :: rfv g a :: .int (Int32.ofInt 0) :: rfv g b :: rest)) := by
  rw [rfv_s ha.1, rfv_s hb.1]
  have xa := cW_ar k z g σ (t := 2) ha
  have xb := cW_ar k z g σ (t := 2) hb
  rw [cAr_i g σ (by decide)] at xa xb
  have en : (Int32.ofInt n).toNatClampNeg = n.toNat := c32_cl hn hn2
  have hz : ¬ Int32.ofInt n < 0 := by rw [c32_z, c32_lt ⟨by omega, by omega⟩ z_i32]; omega
  refine va_copyi C.1 C.2.1 (by rw [C.2.2.2.2.2]; exact hsz.symm) C.2.2.2.1 (C.2.2.1 _ (List.mem_cons_of_mem _ wz_ac)) (C.2.2.1 _ (List.mem_cons_of_mem _ wz_acn)) (C.2.2.1 _ (List.mem_cons_of_mem _ wz_acs)) (C.2.2.1 _ (List.mem_cons_of_mem _ wz_sys)) C.2.2.2.2.1 h.1 h.2.1 h.2.2.1 b.toNat a.toNat 2 2 xb xa rfl rfl rfl (by decide) (by decide) hz (by rw [en, c32_0cl]; omega) (by rw [en, c32_0cl]; omega) (fun _ _ => rfl) hf hlo hdg (fun H1 locs1 b1 b2 b3 => kk H1 locs1 ?_)
  have h1 : Hp D A H0 H1 locs1 _ := ⟨b1, b2, b3, h.2.2.2⟩
  rw [en, c32_0cl, cpy_i σ ha.1 hb.1 hn, cW_cpe k z g σ (t := 2) ha (cAr_i g _ (by decide))] at h1
  exact h1
theorem any_A {own : String} {Ts : List Cond} (C : Cx p s m args c cc own Ts D (TYs k) nL) (hE : Ev z mi aK aV A s s.heap) (h : Hp D A H0 H locs (cW k z g π σ)) (hv : anyO π v) : va_Any "java/lang/Object" s H (g v.toNat) := by
  have go : ∀ (c0 : Nat) (r0 : vw_C), vwCl[c0]? = some r0 → c0 < 20 → va_Nw (.castable r0.1 "java/lang/Object") s → ob π v c0 → va_Any "java/lang/Object" s H (g v.toNat) := by
    intro c0 r0 hc h20 hca hb
    obtain ⟨cell, h1, h2, h3⟩ := va_recv C.2.2.2.2.1 h.1 (ci := c0) (q0 := v.toNat) (q := r0) hc (cW_ob k z g σ hb h20)
    obtain ⟨kC, hkC, -⟩ := Vm.findClass_spec h3
    obtain ⟨cx, tx, f1, f2, f3⟩ := Cond.castable_spec (va_Nw.use (A := #[]) rfl hca)
    cases h3.symm.trans f1
    exact ⟨cell, h1, h2, ⟨kC, hkC⟩, fun comp hcomp => by cases hcomp.symm.trans f2; exact f3⟩
  rcases hv with hb | hb | hb
  · exact go 1 _ rfl (by decide) hE.2.2.2.2.1 hb
  · exact go 5 _ rfl (by decide) hE.2.2.2.2.2.2.1 hb
  · exact go 10 _ rfl (by decide) hE.2.2.2.2.2.1 hb
theorem c_cpyQ (C : Cx p s m args c cc RJ7 (cd :: cWd) D (TYs k) nL) (hE : Ev z mi aK aV A s s.heap) (h : Hp D A H0 H locs (cW k z g π σ)) (hsz : ls.size = nL) (ha : ob π a 27) (hb : ob π b 27) (hn : 0 ≤ n) (hn2 : n < 2147483648) (h1 : n ≤ ln π b) (h2 : n ≤ ln π a) (hall : allO π σ b n) (hf : 1 ≤ R.frames) (hlo : (rest.map fun v => v.category).sum + (nativeFrameWords "java/lang/System" "arraycopy" 5 + 11) ≤ R.locals) (hdg : decode cc pc = .ok (.invokestatic 150, 3))
    (kk : ∀ (H1 : Heap) (locs1 : List Loc), Hp D A H0 H1 locs1 (cW k z g π (cpe σ a b n)) → W p l e R s m args below meth c H1 locs1 cells slots Q (F0 m (pc + 3) ls rest)) : W p l e R s m args below meth c H locs cells slots Q (F0 m pc ls (.int (Int32.ofInt n) :: .int (Int32.ofInt 0) :: rfv g a :: .int (Int32.ofInt 0) :: rfv g b :: rest)) := by
  rw [rfv_s ha.1, rfv_s hb.1]
  have xa := cW_ar k z g σ (t := 7) ha
  have xb := cW_ar k z g σ (t := 7) hb
  rw [cAr_q g σ (by decide)] at xa xb
  have en : (Int32.ofInt n).toNatClampNeg = n.toNat := c32_cl hn hn2
  have hz : ¬ Int32.ofInt n < 0 := by rw [c32_z, c32_lt ⟨by omega, by omega⟩ z_i32]; omega
  refine va_copyM C.1 C.2.1 (by rw [C.2.2.2.2.2]; exact hsz.symm) C.2.2.2.1 (C.2.2.1 _ (List.mem_cons_of_mem _ wz_ac)) (C.2.2.1 _ (List.mem_cons_of_mem _ wz_acn)) (C.2.2.1 _ (List.mem_cons_of_mem _ wz_acs)) (C.2.2.1 _ (List.mem_cons_of_mem _ wz_sys)) C.2.2.2.2.1 h.1 h.2.1 h.2.2.1 b.toNat a.toNat 7 7 xb xa rfl rfl (by decide) (by decide) hz (by rw [en, c32_0cl]; omega) (by rw [en, c32_0cl]; omega) (fun j hj y hy => ?_) hf hlo hdg (fun H1 locs1 b1 b2 b3 => kk H1 locs1 ?_)
  · rw [en] at hj
    rw [c32_0cl, Nat.zero_add] at hy
    rw [toNat_c hb.1] at hy
    rcases hall j hj with h0 | h0
    · rw [rfo_n h0] at hy; cases hy
    · have hv0 : 0 ≤ el σ b j := by rcases h0 with h | h | h <;> exact h.1
      rw [rfo_s hv0] at hy
      cases hy
      exact any_A C hE h h0
  · have h1 : Hp D A H0 H1 locs1 _ := ⟨b1, b2, b3, h.2.2.2⟩
    rw [en, c32_0cl, cpy_q g σ ha.1 hb.1 hn, cW_cpe k z g σ (t := 7) ha (cAr_q g _ (by decide))] at h1
    exact h1
end LR
