/-! fractions of functions: the reference, both -/
section FD
variable {N : Nat} {b : Bse} {dl : List (Int × Int)}
theorem r_frac {τ : St} {n f x y a0 b0 x2 : Int} (hN : 300000 ≤ N) (hn : inb n 32768) (h92 : el τ 92 n = f ∧ i32 f) (h1 : fl τ 3 0 = 3 ∨ fl τ 3 0 = 4) (hx : fl τ 9 0 = x ∧ 0 ≤ x ∧ x ≤ 9999) (hy : y = (if fl τ 3 0 = 3 then 1 else fl τ 10 0) ∧ 0 ≤ y ∧ y ≤ 9999) (hab : el τ 91 n = a0 ∧ el τ 90 n = b0) (h0 : (0 ≤ a0 ∧ a0 ≤ 1000) ∧ 0 ≤ b0 ∧ b0 ≤ 1000) (h2 : (x2 = 1 ∧ b0 = 0) ∨ (x2 = 0 ∧ (f = 19 ∨ f = 20) ∧ b0 ≠ 0)) (hf : fl τ 11 0 = 0) : r_readFraction N τ n = if (x ≤ 64 ∧ y ≤ 64 ∧ 0 < y ∧ ¬ ((f = 0 ∨ f = 1) ∧ x = 0) ∧ ¬ ((f = 19 ∨ f = 20) ∧ y < x)) ∧ (x2 = 1 ∨ a0 * y < x * b0) then (if x2 = 1 then r_advance N (se (se τ 91 n (Int.tdiv x (gC x y))) 90 n (Int.tdiv y (gC x y))) else r_advance N (se (se τ 89 n (Int.tdiv x (gC x y))) 88 n (Int.tdiv y (gC x y)))) else some (sf (sf τ 11 0 3) 12 0 (fl τ 4 0)) := by
  obtain ⟨F, hF⟩ : ∃ F, F = some (sf (sf τ 11 0 3) 12 0 (fl τ 4 0)) := ⟨_, rfl⟩
  rw [← hF]
  have k167 : ∀ s, r_readFraction_167 N τ n x y s = F := fun s => by
    rw [r_readFraction_167, r_readFraction_168, grd_t (by decide), if_pos rfl, r_fail0 hf, Option.bind_some, hF]
  have bindid : ∀ q : Option St, Option.bind q (fun r53 => some r53) = q := fun q => by cases q <;> rfl
  have k163 : (x ≤ 64 ∧ y ≤ 64 ∧ 0 < y) → r_readFraction_163 N τ n x y (1 - x2) = if x2 = 1 then r_advance N (se (se τ 91 n (Int.tdiv x (gC x y))) 90 n (Int.tdiv y (gC x y))) else r_advance N (se (se τ 89 n (Int.tdiv x (gC x y))) 88 n (Int.tdiv y (gC x y))) := by
    intro hb
    have gp : 0 < gC x y := gC_pos (by omega)
    have gl : gC x y ≤ y := gC_le (by omega)
    rw [r_readFraction_163, r_readFraction_168, grd_t (by decide), if_neg (by decide), r_common' hN hx.2.1 (by omega) hy.2.1 (by omega), Option.bind_some]
    rcases h2 with ⟨h, -⟩ | ⟨h, -⟩
    · rw [h, grd_t (by decide), if_pos (by decide), grd_t (by exact ⟨by omega, by omega⟩), grd_t (by exact ⟨by omega, by omega⟩), grd_t (by omega), grd_t hn, grd_t (by exact ⟨by omega, by omega⟩), if_pos rfl, r_readFraction_240, bindid]
    · rw [h, grd_t (by decide), if_neg (by decide), grd_t (by exact ⟨by omega, by omega⟩), grd_t (by exact ⟨by omega, by omega⟩), grd_t (by omega), grd_t hn, grd_t (by exact ⟨by omega, by omega⟩), if_neg (by decide), r_readFraction_240, bindid]
  obtain ⟨W, hW⟩ : ∃ W, W = if x2 = 1 then r_advance N (se (se τ 91 n (Int.tdiv x (gC x y))) 90 n (Int.tdiv y (gC x y))) else r_advance N (se (se τ 89 n (Int.tdiv x (gC x y))) 88 n (Int.tdiv y (gC x y))) := ⟨_, rfl⟩
  rw [← hW] at k163 ⊢
  have k139 : (x ≤ 64 ∧ y ≤ 64 ∧ 0 < y) → r_readFraction_139 N τ n x y (1 - x2) = if x2 = 1 ∨ a0 * y < x * b0 then W else F := by
    intro hb
    have m1 : 0 ≤ x * b0 ∧ x * b0 ≤ 64 * 1000 := ⟨Int.mul_nonneg hx.2.1 h0.2.1, Int.mul_le_mul (by omega) (by omega) (by omega) (by omega)⟩
    have m2 : 0 ≤ a0 * y ∧ a0 * y ≤ 1000 * 64 := ⟨Int.mul_nonneg h0.1.1 hy.2.1, Int.mul_le_mul (by omega) (by omega) (by omega) (by omega)⟩
    rw [r_readFraction_139, k163 hb, k167, hab.1, hab.2]
    rcases h2 with ⟨h, -⟩ | ⟨h, -⟩
    · rw [h, grd_t (by decide), if_pos (by decide), if_pos (Or.inl rfl)]
    · rw [h, grd_t (by decide), if_neg (by decide), grd_t hn, grd_t (by exact ⟨by omega, by omega⟩), grd_t (by exact ⟨by omega, by omega⟩)]
      by_cases c : a0 * y < x * b0
      · rw [if_pos c, if_pos (Or.inr c)]
      · rw [if_neg c, if_neg (by omega)]
  have k129 : ∀ x5, x5 = (if f = 19 ∨ f = 20 then (1 : Int) else 0) → (x ≤ 64 ∧ y ≤ 64 ∧ 0 < y) → r_readFraction_129 N τ n x y x5 (1 - x2) = if ¬ ((f = 19 ∨ f = 20) ∧ y < x) then (if x2 = 1 ∨ a0 * y < x * b0 then W else F) else F := by
    intro x5 h5 hb
    rw [r_readFraction_129, k139 hb, k167]
    by_cases c : f = 19 ∨ f = 20
    · rw [if_pos c] at h5
      rw [h5, grd_t (by decide), if_neg (by decide), grd_t (by exact ⟨by omega, by omega⟩), grd_t (by exact ⟨by omega, by omega⟩)]
      by_cases c2 : y < x
      · rw [if_pos c2]; exact (if_neg (fun w => w ⟨c, c2⟩)).symm
      · rw [if_neg c2]; exact (if_pos (fun w => c2 w.2)).symm
    · rw [if_neg c] at h5
      rw [h5, grd_t (by decide), if_pos rfl]; exact (if_pos (fun w => c w.1)).symm
  have k96 : ∀ x5, x5 = (if f = 19 ∨ f = 20 then (1 : Int) else 0) → r_readFraction_96 N τ n x y f x5 (1 - x2) = if (x ≤ 64 ∧ y ≤ 64 ∧ 0 < y ∧ ¬ ((f = 0 ∨ f = 1) ∧ x = 0) ∧ ¬ ((f = 19 ∨ f = 20) ∧ y < x)) then (if x2 = 1 ∨ a0 * y < x * b0 then W else F) else F := by
    intro x5 h5
    rw [r_readFraction_96, k167, grd_t (by exact ⟨by omega, by omega⟩)]
    by_cases c1 : (64 : Int) < x
    · rw [if_pos c1]; exact (if_neg (by omega)).symm
    rw [if_neg c1, grd_t (by exact ⟨by omega, by omega⟩)]
    by_cases c2 : (64 : Int) < y
    · rw [if_pos c2]; exact (if_neg (by omega)).symm
    rw [if_neg c2]
    by_cases c3 : y = 0
    · rw [if_pos c3]; exact (if_neg (by omega)).symm
    rw [if_neg c3, grd_t h92.2]
    have hb : x ≤ 64 ∧ y ≤ 64 ∧ 0 < y := ⟨by omega, by omega, by omega⟩
    have fin : (¬ ((f = 0 ∨ f = 1) ∧ x = 0)) → r_readFraction_129 N τ n x y x5 (1 - x2) = if (x ≤ 64 ∧ y ≤ 64 ∧ 0 < y ∧ ¬ ((f = 0 ∨ f = 1) ∧ x = 0) ∧ ¬ ((f = 19 ∨ f = 20) ∧ y < x)) then (if x2 = 1 ∨ a0 * y < x * b0 then W else F) else F := by
      intro hz
      rw [k129 x5 h5 hb]
      by_cases c4 : ¬ ((f = 19 ∨ f = 20) ∧ y < x)
      · rw [if_pos c4]; exact (if_pos ⟨hb.1, hb.2.1, hb.2.2, hz, c4⟩).symm
      · rw [if_neg c4]; exact (if_neg (fun w => c4 w.2.2.2.2)).symm
    have k125 : (f = 0 ∨ f = 1) → r_readFraction_125 N τ n x y x5 (1 - x2) = if (x ≤ 64 ∧ y ≤ 64 ∧ 0 < y ∧ ¬ ((f = 0 ∨ f = 1) ∧ x = 0) ∧ ¬ ((f = 19 ∨ f = 20) ∧ y < x)) then (if x2 = 1 ∨ a0 * y < x * b0 then W else F) else F := by
      intro c4
      rw [r_readFraction_125, k167, grd_t (by exact ⟨by omega, by omega⟩)]
      by_cases c5 : 0 < x
      · rw [if_pos c5]; exact fin (fun w => by omega)
      · rw [if_neg c5]; exact (if_neg (fun w => w.2.2.2.1 ⟨c4, by omega⟩)).symm
    by_cases c4 : f = 0
    · rw [if_pos c4]; exact k125 (Or.inl c4)
    rw [if_neg c4]
    by_cases c5 : f = 1
    · rw [if_pos c5]; exact k125 (Or.inr c5)
    rw [if_neg c5]
    exact fin (fun w => by omega)
  obtain ⟨G, hG⟩ : ∃ G, G = (if (x ≤ 64 ∧ y ≤ 64 ∧ 0 < y ∧ ¬ ((f = 0 ∨ f = 1) ∧ x = 0) ∧ ¬ ((f = 19 ∨ f = 20) ∧ y < x)) then (if x2 = 1 ∨ a0 * y < x * b0 then W else F) else F) := ⟨_, rfl⟩
  rw [← hG] at k96
  have k75 : ∀ s0, s0 = (if f = 19 ∨ f = 20 then (1 : Int) else 0) → r_readFraction_75 N τ n x y f s0 = G := by
    intro s0 hs
    rw [r_readFraction_75]
    by_cases c : f = 19 ∨ f = 20
    · have hs1 := hs
      rw [if_pos c] at hs1
      rw [hs1, grd_t (by decide), if_neg (by decide), grd_t hn, hab.2, grd_t (by exact ⟨by omega, by omega⟩)]
      rcases h2 with ⟨h, h3⟩ | ⟨h, -, h3⟩
      · rw [if_pos h3, r_readFraction_95]
        have w := k96 1 (by rw [if_pos c])
        rw [h] at w
        exact w
      · rw [if_neg h3]
        have w := k96 1 (by rw [if_pos c])
        rw [h] at w
        exact w
    · have hs1 := hs
      rw [if_neg c] at hs1
      rw [hs1, grd_t (by decide), if_pos rfl, r_readFraction_95]
      have w := k96 0 (by rw [if_neg c])
      have h : x2 = 1 := by
        rcases h2 with h | h
        · exact h.1
        · exact absurd h.2.1 c
      rw [h] at w
      exact w
  have k47 : r_readFraction_47 N τ n x y = G := by
    rw [r_readFraction_47, grd_t hn]
    simp only [bnd]
    rw [h92.1, grd_t h92.2]
    by_cases c1 : f = 19
    · rw [if_pos c1, r_readFraction_70]; exact k75 1 (by rw [if_pos (Or.inl c1)])
    rw [if_neg c1]
    by_cases c2 : f = 20
    · rw [if_pos c2, r_readFraction_70]; exact k75 1 (by rw [if_pos (Or.inr c2)])
    rw [if_neg c2]
    exact k75 0 (by rw [if_neg (by omega)])
  have top : r_readFraction N τ n = G := by
    have k26 : r_readFraction_26 N τ n = G := by
      rw [r_readFraction_26, hx.1]
      rcases h1 with h | h
      · have e := hy.1
        rw [h, if_pos rfl] at e
        rw [h, grd_t (by decide), if_pos rfl, ← e]; exact k47
      · have e := hy.1
        rw [h, if_neg (by decide)] at e
        rw [h, grd_t (by decide), if_neg (by decide), ← e]; exact k47
    rw [r_readFraction]
    rcases h1 with h | h
    · rw [h, grd_t (by decide), if_pos rfl]; exact k26
    · rw [h, grd_t (by decide), if_neg (by decide), if_pos rfl]; exact k26
  rw [top, hG]
  by_cases c : (x ≤ 64 ∧ y ≤ 64 ∧ 0 < y ∧ ¬ ((f = 0 ∨ f = 1) ∧ x = 0) ∧ ¬ ((f = 19 ∨ f = 20) ∧ y < x))
  · rw [if_pos c]
    by_cases c2 : x2 = 1 ∨ a0 * y < x * b0
    · rw [if_pos c2]; exact (if_pos ⟨c, c2⟩).symm
    · rw [if_neg c2]; exact (if_neg (fun w => c2 w.2)).symm
  · rw [if_neg c]; exact (if_neg (fun w => c w.1)).symm
/-- what number steps come to: a fault, or numbers in both -/
def NBo (N : Nat) (b : Bse) (X : Int → Prop) (L : List Stq) (Kn : List Int) (pc n g1 : Int) (F1 F2 : Nat) (π : Sh) (σ τ : St) (cR : Option St) (rR : Option St) (ok : Int → Int → Prop) : Prop :=
  (∃ e, (e = 1 ∨ e = 3) ∧ cR = some (sf (sf σ 182 1 e) 183 1 (fl τ 4 0)) ∧ rR = some (sf (sf τ 11 0 e) 12 0 (fl τ 4 0))) ∨
  (∃ u v σ' τ', cR = some σ' ∧ rR = some τ' ∧ ok u v ∧ XEs b X π σ' τ' L Kn ∧ (fl σ' F1 pc = u ∧ fl σ' F2 pc = v) ∧ (∀ (f : Nat) (i : Int), ¬ (i = pc ∧ (f = F1 ∨ f = F2)) → ¬ (i = 1 ∧ 185 ≤ f ∧ f ≤ 190) → fl σ' f i = fl σ f i) ∧ (∀ a j : Int, el σ' a j = el σ a j) ∧ (el τ' g1 n = u ∧ el τ' (g1 - 1) n = v) ∧ (∀ f : Nat, ¬ (3 ≤ f ∧ f ≤ 10) → fl τ' f 0 = fl τ f 0) ∧ (∀ a i : Int, ¬ (i = n ∧ (a = g1 ∨ a = g1 - 1)) → el τ' a i = el τ a i) ∧ lf τ' + 1 ≤ lf τ)
theorem nb_go {X : Int → Prop} {π : Sh} {σ τ : St} {L : List Stq} {Kn : List Int} {pc n u v G : Int} {F1 F2 : Nat} (hN : 30000001 ≤ N) (hc : CTX b dl) (h : XEs b X π σ τ L Kn) (hpc : nn b.1 ≤ pc ∧ 56 ≤ pc) (hn : bV b ≤ n) (hk : fl σ 185 1 = 2 ∨ fl σ 185 1 = 3) (h1 : 120 ≤ F1 ∧ F1 ≤ 130) (h2 : 120 ≤ F2 ∧ F2 ≤ 130) (h3 : F1 ≠ F2) (h4 : 86 ≤ G ∧ G ≤ 94) : ∃ σ' τ', Sc_advance N π (sf (sf σ F1 pc u) F2 pc v) = some σ' ∧ r_advance N (se (se τ G n u) (G - 1) n v) = some τ' ∧ XEs b X π σ' τ' L Kn ∧ (fl σ' F1 pc = u ∧ fl σ' F2 pc = v) ∧ (∀ (f : Nat) (i : Int), ¬ (i = pc ∧ (f = F1 ∨ f = F2)) → ¬ (i = 1 ∧ 185 ≤ f ∧ f ≤ 190) → fl σ' f i = fl σ f i) ∧ (∀ a j : Int, el σ' a j = el σ a j) ∧ (el τ' G n = u ∧ el τ' (G - 1) n = v) ∧ (∀ f : Nat, ¬ (3 ≤ f ∧ f ≤ 10) → fl τ' f 0 = fl τ f 0) ∧ (∀ a i : Int, ¬ (i = n ∧ (a = G ∨ a = G - 1)) → el τ' a i = el τ a i) ∧ lf τ' + 1 ≤ lf τ := by
  have v16 := h.2.2.2.2.2.2.2.2.1
  have x1 : XEs b X π (sf (sf σ F1 pc u) F2 pc v) τ L Kn := h.pw ((PWr.sf σ F1 pc u h1).tr (PWr.sf _ F2 pc v h2)) hpc
  have rd : RDr (bV b) 0 τ (se (se τ G n u) (G - 1) n v) := ((RDr.rf _ _ τ).sn G n u (by omega) hn).sn (G - 1) n v (by omega) hn
  have x2' : XEs b X π (sf (sf σ F1 pc u) F2 pc v) (se (se τ G n u) (G - 1) n v) L Kn := x1.rt hc rd (Int.le_refl _) (Int.le_refl _) (by rw [fl_se, fl_se]; exact v16) (fun g _ => by rw [fl_se, fl_se])
  have s185 : fl (sf (sf σ F1 pc u) F2 pc v) 185 1 = fl σ 185 1 := by rw [fl_sf, if_neg (by omega), fl_sf, if_neg (by omega)]
  obtain ⟨σ', τ', p1, p2, p3, p4, p5, p6, p7, -⟩ := x2'.adv (N := N) (by omega) hc (by rw [s185]; omega)
  refine ⟨σ', τ', p1, p2, p3, ⟨?_, ?_⟩, fun f i w1 w2 => ?_, fun a j => by rw [p4.2]; rfl, ⟨?_, ?_⟩, fun f w => by rw [p5.1 f 0 w, fl_se, fl_se], fun a i w => ?_, ?_⟩
  · rw [p4.1 F1 pc (by omega), fl_sfn _ _ _ _ h3, fl_sfs]
  · rw [p4.1 F2 pc (by omega), fl_sfs]
  · rw [p4.1 f i w2, fl_sf, if_neg (by omega), fl_sf, if_neg (by omega)]
  · rw [p5.2, el_sen _ _ _ _ (by omega), el_ses]
  · rw [p5.2, el_ses]
  · rw [p5.2, el_se, if_neg (by omega), el_se, if_neg (by omega)]
  · have z1 : fl τ' 1 0 = fl τ 1 0 := by rw [p5.1 1 0 (by omega), fl_se, fl_se]
    have z2 : fl (se (se τ G n u) (G - 1) n v) 4 0 = fl τ 4 0 := by rw [fl_se, fl_se]
    unfold lf
    omega
set_option maxHeartbeats 2000000 in
/-- both read a fraction -/
theorem fr_both {X : Int → Prop} {π : Sh} {σ τ : St} {L : List Stq} {Kn : List Int} {pc n f a0 b0 x2 d : Int} (hN : 30000001 ≤ N) (hc : CTX b dl) (h : XEs b X π σ τ L Kn) (ho : ob π pc 6) (hpc : nn b.1 ≤ pc ∧ 56 ≤ pc) (h120 : fl σ 120 pc = f ∧ i32 f) (hab : fl σ 122 pc = a0 ∧ fl σ 123 pc = b0) (hn : inb n 32768 ∧ bV b ≤ n) (h92 : el τ 92 n = f) (hab' : el τ 91 n = a0 ∧ el τ 90 n = b0) (h0 : (0 ≤ a0 ∧ a0 ≤ 1000) ∧ 0 ≤ b0 ∧ b0 ≤ 1000) (h2 : (x2 = 1 ∧ b0 = 0) ∨ (x2 = 0 ∧ (f = 19 ∨ f = 20) ∧ b0 ≠ 0)) : NBo N b X L Kn pc n (if x2 = 1 then 91 else 89) (if x2 = 1 then 122 else 124) (if x2 = 1 then 123 else 125) π σ τ (Rd_fraction N π σ pc x2) (r_readFraction N τ n) (fun u v => (0 ≤ u ∧ u ≤ 64) ∧ (1 ≤ v ∧ v ≤ 64) ∧ (v = 1 ∨ u % v ≠ 0) ∧ (f = 0 ∨ f = 1 → 1 ≤ u) ∧ (f = 19 ∨ f = 20 → u ≤ v) ∧ (x2 = 0 → a0 * v < u * b0)) := by
  have tk := h.2.1
  have f0 := h.2.2.1
  have kd := tk.kd
  have bv : 0 ≤ bV b := by obtain ⟨-, -, -, -, -, -, -, -, -, q⟩ := hc; exact q
  have v16 := h.2.2.2.2.2.2.2.2.1
  by_cases c1 : fl σ 185 1 = 2 ∨ fl σ 185 1 = 3
  · obtain ⟨x, y, hx1, hx2, hy1, hy2, hy3, ht⟩ : ∃ x y, fl σ 189 1 = x ∧ (fl τ 9 0 = x ∧ 0 ≤ x ∧ x ≤ 9999) ∧ fl σ 190 1 = y ∧ (y = (if fl τ 3 0 = 3 then 1 else fl τ 10 0)) ∧ (0 ≤ y ∧ y ≤ 9999) ∧ (fl τ 3 0 = 3 ∨ fl τ 3 0 = 4) := by
      have t6 := tk.2.2.2.2.2
      rcases t6 with q | q | ⟨q, -⟩ | q | q | q | q | ⟨sg, s1, s2, -⟩
      · omega
      · omega
      · omega
      · exact ⟨fl τ 9 0, 1, q.2.2.2.1.1, ⟨rfl, q.2.2.2.1.2⟩, q.2.2.2.2, by rw [if_pos q.2.1], by decide, Or.inl q.2.1⟩
      · exact ⟨fl τ 9 0, fl τ 10 0, q.2.2.2.1.1, ⟨rfl, q.2.2.2.1.2⟩, q.2.2.2.2.1, by rw [if_neg (by rw [q.2.1]; decide)], q.2.2.2.2.2, Or.inr q.2.1⟩
      · omega
      · omega
      · unfold isSgB isOpB at s1; omega
    have cF := c_frac (N := N) (x2 := x2) (by omega) ho h120 c1 ⟨hx1, hx2.2⟩ ⟨hy1, hy3⟩ hab h0 (by omega) f0.1
    have rF := r_frac (N := N) (x2 := x2) (by omega) hn.1 ⟨h92, h120.2⟩ ht hx2 ⟨hy2, hy3⟩ hab' h0 h2 f0.2
    by_cases cG : (x ≤ 64 ∧ y ≤ 64 ∧ 0 < y ∧ ¬ ((f = 0 ∨ f = 1) ∧ x = 0) ∧ ¬ ((f = 19 ∨ f = 20) ∧ y < x)) ∧ (x2 = 1 ∨ a0 * y < x * b0)
    · rw [if_pos cG] at cF rF
      obtain ⟨g, u, v, g1, g2, g3, g4, g5, g6, g7, g8, g9, g10, g11, g12⟩ := reduced (x := x) (y := y) ⟨hx2.2.1, cG.1.1⟩ ⟨by omega, cG.1.2.1⟩
      rw [← g1, g4, g5] at cF rF
      have ok : (0 ≤ u ∧ u ≤ 64) ∧ (1 ≤ v ∧ v ≤ 64) ∧ (v = 1 ∨ u % v ≠ 0) ∧ (f = 0 ∨ f = 1 → 1 ≤ u) ∧ (f = 19 ∨ f = 20 → u ≤ v) ∧ (x2 = 0 → a0 * v < u * b0) := by
        refine ⟨⟨g8.1, by omega⟩, ⟨g9.1, by omega⟩, g10, fun w => g11 (by
          have := cG.1.2.2.2.1
          omega), fun w => g12 (by
          have := cG.1.2.2.2.2
          omega), fun w => ?_⟩
        have lt : a0 * y < x * b0 := by
          rcases cG.2 with q | q
          · omega
          · exact q
        rw [g6, g7] at lt
        have e1 : a0 * (v * g) = (a0 * v) * g := by rw [Int.mul_assoc]
        have e2 : u * g * b0 = (u * b0) * g := by rw [Int.mul_assoc, Int.mul_comm g b0, ← Int.mul_assoc]
        rw [e1, e2] at lt
        exact Int.lt_of_mul_lt_mul_right lt (by omega)
      right
      rcases h2 with ⟨w, -⟩ | ⟨w, -⟩
      · rw [if_pos w] at cF rF ⊢
        rw [if_pos w, if_pos w]
        obtain ⟨σ', τ', q1, q2, q3⟩ := nb_go (N := N) (u := u) (v := v) (F1 := 122) (F2 := 123) (G := 91) hN hc h hpc hn.2 (by omega) (by decide) (by decide) (by decide) (by decide)
        exact ⟨u, v, σ', τ', cF.trans q1, rF.trans q2, ok, q3⟩
      · rw [if_neg (by omega)] at cF rF ⊢
        rw [if_neg (by omega), if_neg (by omega)]
        obtain ⟨σ', τ', q1, q2, q3⟩ := nb_go (N := N) (u := u) (v := v) (F1 := 124) (F2 := 125) (G := 89) hN hc h hpc hn.2 (by omega) (by decide) (by decide) (by decide) (by decide)
        exact ⟨u, v, σ', τ', cF.trans q1, rF.trans q2, ok, q3⟩
    · rw [if_neg cG] at cF rF
      rw [tk.2.1] at cF
      exact Or.inl ⟨3, Or.inr rfl, cF, rF⟩
  · refine Or.inl ⟨1, Or.inl rfl, ?_, ?_⟩
    · rw [Rd_fraction, grd_t kd.1, if_neg (by omega), if_neg (by omega), c_fail (by rw [f0.1]; decide), Option.bind_some, flS, if_pos f0.1, tk.2.1]
    · have t3 : ¬ fl τ 3 0 = 3 := fun e => c1 (Or.inl (kd.2.2.2.2.1.2 e))
      have t4 : ¬ fl τ 3 0 = 4 := fun e => c1 (Or.inr (kd.2.2.2.2.2.1.2 e))
      have t7 := kd.2.1
      rw [r_readFraction, grd_t (by exact ⟨by omega, by omega⟩), if_neg t3, if_neg t4, r_fail0 f0.2, Option.bind_some]
end FD
