/-! rows of the class: windows, backwards, rotated, drawn, squeezed -/
theorem ceil_le {x y e : Int} (h : 0 < y) : -((-x) / y) ≤ e ↔ x ≤ e * y := by
  have : -e ≤ (-x) / y ↔ -e * y ≤ -x := Int.le_ediv_iff_mul_le h
  rw [Int.neg_mul] at this
  constructor
  · intro k
    have := this.1 (by omega)
    omega
  · intro k
    have := this.2 (by omega)
    omega
theorem lt_ceil {x y e : Int} (h : 0 < y) : e < -((-x) / y) ↔ e * y < x := by
  have := ceil_le (x := x) (e := e) h
  omega
section CK6
variable {N : Nat} {π : Sh} {τ : St} {d : Nat} {σ : St} {r p c : Int}
theorem PH.kidch (h : PH N π τ d σ r p c) {σ1 : St} {i c' k b lo hi x : Int} {A : List Evt} (hA : AC σ (fl σ 46 10) A σ1) (h0 : 0 ≤ i) (h1 : i < el τ 64 p) (hc : CB τ d (kd τ p i) c') (hl : (A.length : Int) + cw τ (kd τ p i) ≤ cw τ p) (hw : wk τ (kd τ p i) ≤ wk τ p) (hk : 1 ≤ k ∧ k ≤ 1000000) (hb : -1000000000000 ≤ b ∧ b ≤ 1000000000000) (h64 : i64 lo ∧ i64 hi) (hx : i32 x) : ∃ σ2 σ3 σ4, Rw_rowC N d π σ1 (el σ (fl σ 101 r) i) c' = some σ2 ∧ EF (fl σ 46 10) σ σ2 ∧ Es_scale N π σ2 (fl σ1 46 10) k b = some σ3 ∧ EF (fl σ 46 10) σ σ3 ∧ Es_choose N π σ3 (fl σ1 46 10) lo hi x = some σ4 ∧ AC σ (fl σ 46 10) (A ++ (mv k b (rowL τ d (kd τ p i) c')).filter (chs lo hi x)) σ4 := by
  obtain ⟨-, -, -, -, -, -, t0, t1, hN, -⟩ := id h
  have w := h.2.2.1.2.1.2.2.2.1
  obtain ⟨g1, g2⟩ := h.2.2.1.2.1.1
  have pm := phi_mono hw w.2
  obtain ⟨aE, aT, aA⟩ := id hA
  obtain ⟨⟨kg1, kg2⟩, ⟨kc1, kc2⟩, -, ⟨kw1, kw2⟩, -⟩ := (h.kn h0 h1).2
  have gd := row_good d (kd τ p i) c' (h.kn h0 h1).1
  have gl := gd.1
  have ph := phi_lo (show 0 ≤ wk τ (kd τ p i) by omega)
  obtain ⟨σ2, σ3, q1, q2, q3, q4, q5, q6⟩ := h.kidmv aE h0 h1 hc (by omega) (by omega) (k := k) (b := b) ⟨by omega, by omega⟩ ⟨by omega, by omega⟩
  have gm := (gd.2.1.mvd (b := b) hk.1)
  rw [mv_len] at q5
  obtain ⟨σ4, s1, s2, s3, s4, s5⟩ := c_choose (N := N) (π := π) (lo := lo) (hi := hi) (x := x) hN h64 hx q6 (fun e he => by
    obtain ⟨⟨e1, e2⟩, -⟩ := gm e he
    have u : gr τ (kd τ p i) * k ≤ 1000000 * k := Int.mul_le_mul_of_nonneg_right kg2 (by omega)
    exact ⟨by omega, by omega⟩) (by omega) (by rw [mv_len, q5]) (by rw [q5]; omega)
  refine ⟨σ2, σ3, σ4, q1, aE.tr q2 (by omega), q3, aE.tr q4 (by omega), s1, hA.add (q4.tr s2 (Int.le_refl _)) s4 s5⟩
theorem ck_within (h : PH N π τ d σ r p c) (hn : NK15 τ p) {lo hi : Int} (h64 : i64 lo ∧ i64 hi) {P : Evt → Bool} (hP : inW lo hi = P) : HK σ (sortE ((mv (gr τ p / gr τ (kd τ p 0)) 0 (rowL τ d (kd τ p 0) c)).filter (fun e => !P e) ++ (mv (gr τ p / gr τ (kd τ p 1)) 0 (rowL τ d (kd τ p 1) c)).filter P)) (Rw_within N (Rw_rowC N d) π σ r c lo hi) := by
  obtain ⟨n1, n2, n3, n4, n5, n6, n7, n8⟩ := hn
  obtain ⟨g1, g2⟩ := h.2.2.1.2.1.1
  have k0 := (h.kn (i := 0) (by omega) (by omega)).2
  have k1 := (h.kn (i := 1) (by omega) (by omega)).2
  have c0 := k0.2.1.1
  have c1' := k1.2.1.1
  obtain ⟨kg0a, kg0b⟩ := k0.1
  obtain ⟨kg1a, kg1b⟩ := k1.1
  have kc0 := h.2.2.2.1.same (c' := c) k0.2.2.2.1.1 n7 (by omega) (by omega)
  have kc1 := h.2.2.2.1.same (c' := c) k1.2.2.2.1.1 n8 (by omega) (by omega)
  have dp0 := dv_pos n2 k0.1.1 g1
  have dl0 : gr τ p / gr τ (kd τ p 0) ≤ gr τ p := Int.ediv_le_self _ (by omega)
  have dp1 := dv_pos n3 k1.1.1 g1
  have dl1 : gr τ p / gr τ (kd τ p 1) ≤ gr τ p := Int.ediv_le_self _ (by omega)
  obtain ⟨σ2, σ3, σ4, q1, q2, q3, q4, q5, q6⟩ := h.kidch (AC.rf σ) (i := 0) (c' := c) (k := gr τ p / gr τ (kd τ p 0)) (b := 0) (lo := lo) (hi := hi) (x := 0) (by omega) (by omega) kc0 (by simp; omega) n7 ⟨dp0, by omega⟩ ⟨by omega, by omega⟩ h64 (by decide)
  rw [List.nil_append, chs_out, hP] at q6
  have gd0 := row_good d (kd τ p 0) c (h.kn (i := 0) (by omega) (by omega)).1
  have gd1 := row_good d (kd τ p 1) c (h.kn (i := 1) (by omega) (by omega)).1
  have l0 := flt_len (fun e => !P e) (mv (gr τ p / gr τ (kd τ p 0)) 0 (rowL τ d (kd τ p 0) c))
  rw [mv_len] at l0
  have l1 := flt_len P (mv (gr τ p / gr τ (kd τ p 1)) 0 (rowL τ d (kd τ p 1) c))
  rw [mv_len] at l1
  have m0 := gd0.1
  have m1 := gd1.1
  obtain ⟨σ5, σ6, σ7, s1, s2, s3, s4, s5, s6⟩ := h.kidch q6 (i := 1) (c' := c) (k := gr τ p / gr τ (kd τ p 1)) (b := 0) (lo := lo) (hi := hi) (x := 1) (by omega) (by omega) kc1 (by omega) n8 ⟨dp1, by omega⟩ ⟨by omega, by omega⟩ h64 (by decide)
  rw [chs_in, hP] at s6
  obtain ⟨σ8, y1, y2⟩ := AC.sort h s6 (by rw [List.length_append]; omega) (((gd0.kid k0.1.1 n2 g1 n5).1.flt _).app ((gd1.kid k1.1.1 n3 g1 n6).1.flt _))
  obtain ⟨⟨a1, a2, a3, a4⟩, a5, a6, a7, a8, a9, a10⟩ := h.at (EF.rf 0 σ)
  obtain ⟨⟨b1, b2, b3, b4⟩, b5, b6, b7, b8, b9, b10⟩ := h.at q2
  obtain ⟨⟨c1, c2, c3, c4⟩, c5, c6, c7, c8, c9, c10⟩ := h.at q6.1
  obtain ⟨⟨d1, d2, d3, d4⟩, d5, d6, d7, d8, d9, d10⟩ := h.at s2
  obtain ⟨e1, e2, e3, e4⟩ := b8 0 (by omega) (by omega)
  obtain ⟨f1, f2, f3, f4⟩ := c8 1 (by omega) (by omega)
  obtain ⟨i1, i2, i3, i4⟩ := d8 1 (by omega) (by omega)
  have e : Rw_within N (Rw_rowC N d) π σ r c lo hi = some σ8 := by
    rw [Rw_within, grd_t a1, grd_t a6, grd_t (by exact ⟨by omega, by omega, by omega⟩), q1, Option.bind_some, b3, grd_t b6, grd_t (by exact ⟨by omega, by omega, by omega⟩), e1, grd_t e2, b4, e3, grd_t (by exact ⟨by omega, by omega⟩), grd_t (by exact ⟨by omega, by omega⟩), grd_t (by omega), td_pos (by omega), q3, Option.bind_some, q5, Option.bind_some, c3, grd_t c6, grd_t (by exact ⟨by omega, by omega, by omega⟩), f1, s1, Option.bind_some, d3, grd_t d6, grd_t (by exact ⟨by omega, by omega, by omega⟩), i1, grd_t i2, d4, i3, grd_t (by exact ⟨by omega, by omega⟩), grd_t (by exact ⟨by omega, by omega⟩), grd_t (by omega), td_pos (by omega), s3, Option.bind_some, s5, Option.bind_some, y1, Option.bind_some]
  rw [e]
  exact AC.hk y2
theorem ck_chunk (h : PH N π τ d σ r p c) (hK : el τ 70 p = 15) (hn : NK15 τ p) (ha : 1 ≤ el τ 69 p ∧ el τ 69 p ≤ 1000) : HK σ (rowK τ (rowL τ d) p c) (Rw_chunk N (Rw_rowC N d) π σ r c) := by
  obtain ⟨g1, g2⟩ := h.2.2.1.2.1.1
  have cb := h.2.2.2.1.abs h.2.2.1.2.1
  obtain ⟨⟨a1, a2, a3, a4⟩, a5, a6, a7, a8, a9, a10⟩ := h.at (EF.rf 0 σ)
  have ea : fl σ 202 (fl σ 100 r) = el τ 69 p := by
    rw [a10.2.2.1 (by omega) (by omega) (by omega), if_neg (by omega), if_neg (by omega)]
  have m0 := Int.emod_nonneg c (show el τ 69 p ≠ 0 by omega)
  have m1 := Int.emod_lt_of_pos c (show 0 < el τ 69 p by omega)
  have u0 := Int.mul_nonneg m0 (show 0 ≤ gr τ p by omega)
  have u1 : c % el τ 69 p * gr τ p ≤ 1000 * gr τ p := Int.mul_le_mul_of_nonneg_right (by omega) (by omega)
  have u2 : (c % el τ 69 p + 1) * gr τ p = c % el τ 69 p * gr τ p + gr τ p := by rw [Int.add_mul]; omega
  have bd : ∀ x : Int, 0 ≤ x → x ≤ 1001000000 → i64 (-((-x) / el τ 69 p)) := by
    intro x h1 h2
    have a1 : -((-x) / el τ 69 p) ≤ x := (ceil_le (by omega)).2 (by
      have := Int.mul_le_mul_of_nonneg_left ha.1 h1
      omega)
    have a2 : ¬ -((-x) / el τ 69 p) < 0 := fun k => by
      have := (ceil_le (x := x) (y := el τ 69 p) (e := -1) (by omega)).1 (by omega)
      omega
    exact ⟨by omega, by omega⟩
  have key := ck_within h hn (lo := -((-(c % el τ 69 p * gr τ p)) / el τ 69 p)) (hi := -((-((c % el τ 69 p + 1) * gr τ p)) / el τ 69 p)) ⟨bd _ u0 (by omega), bd _ (by omega) (by omega)⟩ (P := fun e => decide (c % el τ 69 p * gr τ p ≤ e.1 * el τ 69 p ∧ e.1 * el τ 69 p < (c % el τ 69 p + 1) * gr τ p)) (funext (fun e => by
    unfold inW
    rw [decide_eq_decide, ceil_le (by omega), lt_ceil (by omega)]))
  obtain ⟨σ', e1, e2⟩ := key
  have e : Rw_chunk N (Rw_rowC N d) π σ r c = some σ' := by
    rw [Rw_chunk, grd_t a1, grd_t a5, ea, grd_t (by exact ⟨by omega, by omega⟩), show max 1 (el τ 69 p) = el τ 69 p by omega, grd_t (by exact ⟨by omega, by omega⟩), bnd, c_fmod ⟨by omega, by omega⟩ ⟨by omega, by omega⟩ (by omega), Option.bind_some, a4, c_ceil ⟨by omega, by omega⟩ ⟨by omega, by omega⟩ (by omega), Option.bind_some, c_ceil ⟨by omega, by omega⟩ ⟨by omega, by omega⟩ (by omega), Option.bind_some, e1, Option.bind_some]
  have er : rowK τ (rowL τ d) p c = sortE ((mv (gr τ p / gr τ (kd τ p 0)) 0 (rowL τ d (kd τ p 0) c)).filter (fun e => !decide (c % el τ 69 p * gr τ p ≤ e.1 * el τ 69 p ∧ e.1 * el τ 69 p < (c % el τ 69 p + 1) * gr τ p)) ++ (mv (gr τ p / gr τ (kd τ p 1)) 0 (rowL τ d (kd τ p 1) c)).filter (fun e => decide (c % el τ 69 p * gr τ p ≤ e.1 * el τ 69 p ∧ e.1 * el τ 69 p < (c % el τ 69 p + 1) * gr τ p))) := by
    unfold rowK
    simp only [hK]
    rfl
  rw [e, er]
  exact ⟨σ', rfl, e2⟩
theorem ck_span (h : PH N π τ d σ r p c) (hK : el τ 70 p = 16) (hn : NK15 τ p) (ha : 0 ≤ el τ 69 p ∧ el τ 69 p ≤ 64) (hb : 1 ≤ el τ 68 p ∧ el τ 68 p ≤ 64) (hc : 0 ≤ el τ 67 p ∧ el τ 67 p ≤ 64) (hd : 1 ≤ el τ 66 p ∧ el τ 66 p ≤ 64) : ∃ lo hi, Rw_ceiling N (el τ 69 p * gr τ p) (el τ 68 p) = some lo ∧ Rw_ceiling N (el τ 67 p * gr τ p) (el τ 66 p) = some hi ∧ HK σ (rowK τ (rowL τ d) p c) (Rw_within N (Rw_rowC N d) π σ r c lo hi) := by
  obtain ⟨g1, g2⟩ := h.2.2.1.2.1.1
  have u0 := Int.mul_nonneg ha.1 (show 0 ≤ gr τ p by omega)
  have u1 : el τ 69 p * gr τ p ≤ 64 * gr τ p := Int.mul_le_mul_of_nonneg_right ha.2 (by omega)
  have v0 := Int.mul_nonneg hc.1 (show 0 ≤ gr τ p by omega)
  have v1 : el τ 67 p * gr τ p ≤ 64 * gr τ p := Int.mul_le_mul_of_nonneg_right hc.2 (by omega)
  have bd : ∀ x y : Int, 1 ≤ y → 0 ≤ x → x ≤ 1001000000 → i64 (-((-x) / y)) := by
    intro x y hy h1 h2
    have a1 : -((-x) / y) ≤ x := (ceil_le (by omega)).2 (by
      have := Int.mul_le_mul_of_nonneg_left hy h1
      omega)
    have a2 : ¬ -((-x) / y) < 0 := fun k => by
      have := (ceil_le (x := x) (y := y) (e := -1) (by omega)).1 (by omega)
      omega
    exact ⟨by omega, by omega⟩
  have key := ck_within h hn (lo := -((-(el τ 69 p * gr τ p)) / el τ 68 p)) (hi := -((-(el τ 67 p * gr τ p)) / el τ 66 p)) ⟨bd _ _ hb.1 u0 (by omega), bd _ _ hd.1 v0 (by omega)⟩ (P := fun e => decide (el τ 69 p * gr τ p ≤ e.1 * el τ 68 p ∧ e.1 * el τ 66 p < el τ 67 p * gr τ p)) (funext (fun e => by
    unfold inW
    rw [decide_eq_decide, ceil_le (by omega), lt_ceil (by omega)]))
  refine ⟨_, _, c_ceil ⟨by omega, by omega⟩ ⟨by omega, by omega⟩ (by omega), c_ceil ⟨by omega, by omega⟩ ⟨by omega, by omega⟩ (by omega), ?_⟩
  have er : rowK τ (rowL τ d) p c = sortE ((mv (gr τ p / gr τ (kd τ p 0)) 0 (rowL τ d (kd τ p 0) c)).filter (fun e => !decide (el τ 69 p * gr τ p ≤ e.1 * el τ 68 p ∧ e.1 * el τ 66 p < el τ 67 p * gr τ p)) ++ (mv (gr τ p / gr τ (kd τ p 1)) 0 (rowL τ d (kd τ p 1) c)).filter (fun e => decide (el τ 69 p * gr τ p ≤ e.1 * el τ 68 p ∧ e.1 * el τ 66 p < el τ 67 p * gr τ p))) := by
    unfold rowK
    simp only [hK]
    rfl
  rw [er]
  exact key
/-- the first kid's row as it stands -/
theorem PH.kid0 (h : PH N π τ d σ r p c) (hm : 1 ≤ el τ 64 p) (hg : gr τ (kd τ p 0) = gr τ p) (hc : cw τ (kd τ p 0) ≤ cw τ p) (hw : wk τ (kd τ p 0) ≤ wk τ p) : ∃ σ2, Rw_rowC N d π σ (el σ (fl σ 101 r) 0) c = some σ2 ∧ AC σ (fl σ 46 10) (rowL τ d (kd τ p 0) c) σ2 := by
  obtain ⟨-, -, -, -, -, -, t0, t1, hN, -⟩ := id h
  have k0 := (h.kn (i := 0) (by omega) (by omega)).2
  have kc0 := h.2.2.2.1.same (c' := c) k0.2.2.2.1.1 hw (by omega) (by omega)
  have pm := phi_mono hw h.2.2.1.2.1.2.2.2.1.2
  obtain ⟨σ2, q1, q2, q3, q4⟩ := h.kid (EF.rf 0 σ) (i := 0) (c' := c) (by omega) (by omega) kc0 t0 (by omega)
  exact ⟨σ2, q1, by have := (AC.rf σ).add q2 q3 q4; rw [List.nil_append] at this; exact this⟩
theorem ck_rev_lp (h : PH N π τ d σ r p c) : ∀ (l : List Evt) (n : Nat) (σ1 : St) (K : List Evt), l.length < n → EF (fl σ 46 10) σ σ1 → fl σ1 46 10 = fl σ 46 10 + (K.length + l.length) → At (CE σ1) (fl σ 46 10) K → At (CE σ1) (fl σ 46 10 + K.length) l → (K.length + l.length : Int) ≤ cw τ p → (∀ e ∈ l, 0 ≤ e.1 ∧ 0 ≤ e.2.1 ∧ e.1 + e.2.1 ≤ 1000000000) → Gu 0 (gr τ p) (gr τ p) (K ++ revL (gr τ p) l) → ∃ σ', Rw_reverse_24 N (Rw_rowC N d) π n σ1 r (fl σ 46 10) (fl σ 46 10 + K.length) = some σ' ∧ AC σ (fl σ 46 10) (sortE (K ++ revL (gr τ p) l)) σ'
  | [], n + 1, σ1, K, _, hE, hT, hK, _, hl, _, hg => by
    obtain ⟨-, -, -, -, -, -, t0, t1, hN, -⟩ := id h
    simp only [List.length_nil] at hT hl
    have ph := phi_lo (show 0 ≤ wk τ p by have := h.2.2.1.2.1.2.2.2.1.1; omega)
    have hr : revL (gr τ p) [] = [] := rfl
    rw [hr, List.append_nil] at hg ⊢
    obtain ⟨σ2, q1, q2⟩ := AC.sort h (show AC σ (fl σ 46 10) K σ1 from ⟨hE, by rw [hT]; simp, hK⟩) (by omega) hg
    refine ⟨σ2, ?_, q2⟩
    rw [Rw_reverse_24, grd_t (by exact ⟨by omega, by omega⟩), grd_t (by exact ⟨by omega, by omega⟩), if_neg (by omega), q1, Option.bind_some]
  | e :: l, n + 1, σ1, K, hn, hE, hT, hK, ha, hl, hb, hg => by
    obtain ⟨-, -, -, -, -, -, t0, t1, hN, -⟩ := id h
    obtain ⟨g1, g2⟩ := h.2.2.1.2.1.1
    simp only [List.length_cons] at hT hl hn
    have ph := phi_lo (show 0 ≤ wk τ p by have := h.2.2.1.2.1.2.2.2.1.1; omega)
    obtain ⟨⟨e1, e2, e3⟩, ha⟩ := ha
    obtain ⟨b1, b3, b2⟩ := hb e (by simp)
    obtain ⟨⟨a1, a2, a3, a4⟩, -⟩ := h.at hE
    have kk : (K.length : Int) + 1 = ((K ++ [(gr τ p - min (gr τ p) (e.1 + e.2.1), min (gr τ p) (e.1 + e.2.1) - e.1, e.2.2)]).length : Int) := by simp only [List.length_append, List.length_cons, List.length_nil]; omega
    have f1 : EF (fl σ 46 10 + K.length) σ1 (se (se σ1 11 (fl σ 46 10 + K.length) (gr τ p - min (gr τ p) (e.1 + e.2.1))) 12 (fl σ 46 10 + K.length) (min (gr τ p) (e.1 + e.2.1) - e.1)) := EF.se2 σ1 _ _ (Int.le_refl _)
    have hrv : revL (gr τ p) (e :: l) = (gr τ p - min (gr τ p) (e.1 + e.2.1), min (gr τ p) (e.1 + e.2.1) - e.1, e.2.2) :: revL (gr τ p) l := rfl
    obtain ⟨σ', z1, z2⟩ := ck_rev_lp h l n (se (se σ1 11 (fl σ 46 10 + K.length) (gr τ p - min (gr τ p) (e.1 + e.2.1))) 12 (fl σ 46 10 + K.length) (min (gr τ p) (e.1 + e.2.1) - e.1)) (K ++ [(gr τ p - min (gr τ p) (e.1 + e.2.1), min (gr τ p) (e.1 + e.2.1) - e.1, e.2.2)]) (by omega) (hE.tr f1 (by omega)) (by
        show fl σ1 46 10 = _
        rw [hT]; simp only [List.length_append, List.length_cons, List.length_nil]; omega) (At.snoc (f1.at hK (Int.le_refl _)) (by
          unfold CE
          simp only [el_se]
          exact ⟨rfl, rfl, e3⟩)) (by
        rw [← kk, show fl σ 46 10 + ((K.length : Int) + 1) = fl σ 46 10 + K.length + 1 by omega]
        exact CE.of (fun b j j1 j2 => by
          simp only [el_se]
          rw [if_neg (by omega), if_neg (by omega)]) ha) (by simp only [List.length_append, List.length_cons, List.length_nil]; omega) (fun x hx => hb x (by simp [hx])) (by rw [List.append_assoc]; exact hg)
    refine ⟨σ', ?_, ?_⟩
    · rw [Rw_reverse_24, grd_t (by exact ⟨by omega, by omega⟩), grd_t (by exact ⟨by omega, by omega⟩), if_pos (by omega), grd_t (by exact ⟨by omega, by omega⟩), bnd, e1, e2, grd_t a1, a4, grd_t (by exact ⟨by omega, by omega⟩), grd_t (by exact ⟨by omega, by omega⟩), bnd, show fl σ 46 10 + (K.length : Int) + 1 = fl σ 46 10 + ((K.length : Int) + 1) by omega, kk]
      exact z1
    · rw [List.append_assoc] at z2
      exact z2
theorem ck_reverse (h : PH N π τ d σ r p c) (hK : el τ 70 p = 12) (hn : NK12 τ p) : HK σ (rowK τ (rowL τ d) p c) (Rw_reverse N (Rw_rowC N d) π σ r c) := by
  obtain ⟨n1, n2, n3, n4⟩ := hn
  obtain ⟨g1, g2⟩ := h.2.2.1.2.1.1
  obtain ⟨-, -, -, -, -, -, t0, t1, hN, -⟩ := id h
  obtain ⟨⟨a1, a2, a3, a4⟩, a5, a6, a7, a8, a9, a10⟩ := h.at (EF.rf 0 σ)
  obtain ⟨σ2, q1, q2⟩ := h.kid0 (by omega) n2 n3 n4
  have gd := row_good d (kd τ p 0) c (h.kn (i := 0) (by omega) (by omega)).1
  have k0 := (h.kn (i := 0) (by omega) (by omega)).2
  have gl := gd.1
  have gu := gd.2.1
  have ph := phi_lo (show 0 ≤ wk τ p by have := h.2.2.1.2.1.2.2.2.1.1; omega)
  obtain ⟨σ', z1, z2⟩ := ck_rev_lp h (rowL τ d (kd τ p 0) c) N σ2 [] (by omega) q2.1 (by rw [q2.2.1]; simp) trivial (by simpa using q2.2.2) (by simp; omega) (fun e he => by
    obtain ⟨⟨u1, u2⟩, ⟨u3, u4⟩, -⟩ := gu e he
    have : rc τ (kd τ p 0) * gr τ (kd τ p 0) ≤ 64 * gr τ (kd τ p 0) := Int.mul_le_mul_of_nonneg_right k0.2.2.1.2 (by omega)
    have := k0.1.2
    omega) (by rw [List.nil_append]; rw [n2] at gu; exact revL_good gu g1)
  simp only [List.length_nil, List.nil_append] at z1 z2
  have e : Rw_reverse N (Rw_rowC N d) π σ r c = some σ' := by
    rw [Rw_reverse, grd_t a1, grd_t a6, grd_t (by exact ⟨by omega, by omega, by omega⟩), q1, Option.bind_some]
    rw [show fl σ 46 10 + ((0 : Nat) : Int) = fl σ 46 10 by omega] at z1
    exact z1
  have er : rowK τ (rowL τ d) p c = sortE (revL (gr τ p) (rowL τ d (kd τ p 0) c)) := by
    unfold rowK
    simp only [hK]
    rfl
  rw [e, er]
  exact AC.hk z2
theorem ck_squeeze (h : PH N π τ d σ r p c) (hK : el τ 70 p = 20) (hn : NK20 τ p) : HK σ (rowK τ (rowL τ d) p c) (Rw_squeeze N (Rw_rowC N d) π σ r c) := by
  obtain ⟨n1, n2, n3, n4, n5, n6, n7, n8, n9⟩ := hn
  obtain ⟨g1, g2⟩ := h.2.2.1.2.1.1
  obtain ⟨-, -, -, -, -, -, t0, t1, hN, -⟩ := id h
  obtain ⟨⟨a1, a2, a3, a4⟩, a5, a6, a7, a8, a9, a10⟩ := h.at (EF.rf 0 σ)
  have k0 := (h.kn (i := 0) (by omega) (by omega)).2
  obtain ⟨kg0a, kg0b⟩ := k0.1
  have D0 : 0 < spD τ p := Int.mul_pos (by omega) (by omega)
  have D2 : spD τ p ≤ 64 * 64 := by
    have := Int.mul_le_mul n3.2 n5.2 (by omega) (by omega)
    exact this
  have U2 : spU τ p ≤ 64 * 64 := by
    have u1 : el τ 67 p * el τ 68 p ≤ 64 * 64 := Int.mul_le_mul (by omega) n3.2 (by omega) (by omega)
    have u2 : 0 ≤ el τ 69 p * el τ 66 p := Int.mul_nonneg (by omega) (by omega)
    show el τ 67 p * el τ 68 p - el τ 69 p * el τ 66 p ≤ _
    omega
  have g0 : 0 < gC (spU τ p) (spD τ p) := gC_pos D0
  have gle : gC (spU τ p) (spD τ p) ≤ spD τ p := gC_le D0
  have dU : gC (spU τ p) (spD τ p) ∣ spU τ p := Int.gcd_dvd_left _ _
  have dD : gC (spU τ p) (spD τ p) ∣ spD τ p := Int.gcd_dvd_right _ _
  have U1 := dv_pos dU (by omega) (by omega)
  have D1 := dv_pos dD (by omega) (by omega)
  have Ul : spU τ p / gC (spU τ p) (spD τ p) ≤ spU τ p := Int.ediv_le_self _ (by omega)
  have Dl : spD τ p / gC (spU τ p) (spD τ p) ≤ spD τ p := Int.ediv_le_self _ (by omega)
  have dg : 1 ≤ spD τ p / gC (spU τ p) (spD τ p) * gr τ (kd τ p 0) := by
    have := Int.mul_le_mul_of_nonneg_right D1 (show 0 ≤ gr τ (kd τ p 0) by have := k0.1.1; omega)
    have := k0.1.1
    omega
  have dle := dv_le n8 g1
  have qle : gr τ (kd τ p 0) ≤ spD τ p / gC (spU τ p) (spD τ p) * gr τ (kd τ p 0) := by
    have := Int.mul_le_mul_of_nonneg_right D1 (show 0 ≤ gr τ (kd τ p 0) by have := k0.1.1; omega)
    omega
  have kc0 := h.2.2.2.1.same (c' := c) k0.2.2.2.1.1 n9.2.2 (by omega) (by omega)
  have F1 := dv_pos n8 dg g1
  have Fl : gr τ p / (spD τ p / gC (spU τ p) (spD τ p) * gr τ (kd τ p 0)) ≤ gr τ p := Int.ediv_le_self _ (by omega)
  have T1 : spU τ p / gC (spU τ p) (spD τ p) * (gr τ p / (spD τ p / gC (spU τ p) (spD τ p) * gr τ (kd τ p 0))) ≤ 4096 * gr τ p := Int.mul_le_mul (by omega) Fl (by omega) (by omega)
  have T0 := Int.mul_nonneg (show 0 ≤ spU τ p / gC (spU τ p) (spD τ p) by omega) (show 0 ≤ gr τ p / (spD τ p / gC (spU τ p) (spD τ p) * gr τ (kd τ p 0)) by omega)
  have B0 : 0 ≤ gr τ p / el τ 68 p := Int.ediv_nonneg (by omega) (by omega)
  have B1 : gr τ p / el τ 68 p ≤ gr τ p := Int.ediv_le_self _ (by omega)
  have C0 : 0 ≤ el τ 69 p * (gr τ p / el τ 68 p) := Int.mul_nonneg (by omega) B0
  have C1 : el τ 69 p * (gr τ p / el τ 68 p) ≤ 64 * gr τ p := Int.mul_le_mul (by omega) B1 B0 (by omega)
  obtain ⟨σ2, σ3, q1, q2, q3, q4⟩ := ck_one h (i := 0) (c' := c) (k := spU τ p / gC (spU τ p) (spD τ p) * (gr τ p / (spD τ p / gC (spU τ p) (spD τ p) * gr τ (kd τ p 0)))) (b := el τ 69 p * (gr τ p / el τ 68 p)) (by omega) (by omega) kc0 n9 ⟨by omega, by omega⟩ ⟨by omega, by omega⟩
  obtain ⟨⟨b1, b2, b3, b4⟩, b5, b6, b7, b8, b9, b10⟩ := h.at q2
  obtain ⟨c1, c2, c3, c4⟩ := b8 0 (by omega) (by omega)
  have ea : fl σ2 202 (fl σ 100 r) = el τ 69 p := by
    rw [b9 202 (by omega), a10.2.2.1 (by omega) (by omega) (by omega), if_neg (by omega), if_neg (by omega)]
  have eb : fl σ2 203 (fl σ 100 r) = el τ 68 p := by
    rw [b9 203 (by omega), a10.2.2.2.1 (by omega), if_neg (by omega), if_neg (by omega)]
  have ec : fl σ2 204 (fl σ 100 r) = el τ 67 p := by
    rw [b9 204 (by omega), a10.2.2.2.2.1 (by omega)]
  have ed : fl σ2 205 (fl σ 100 r) = el τ 66 p := by
    rw [b9 205 (by omega), a10.2.2.2.2.2.1 (by omega)]
  have gc : Pt_gcd N (spU τ p) (spD τ p) = some (gC (spU τ p) (spD τ p)) := c_gcd (by omega) (by omega) (by omega) D0 (by omega)
  have su : Pt_spanUpper N π σ2 r = some (σ2, spU τ p / gC (spU τ p) (spD τ p)) := by
    rw [Pt_spanUpper, grd_t b1, b2, grd_t b5, ec, eb, ea, ed, grd_t (by exact ⟨by omega, by omega⟩), grd_t (by exact ⟨by omega, by omega⟩), grd_t (by exact ⟨by omega, by omega⟩), grd_t (by exact ⟨by omega, by omega⟩), bnd, gc, Option.bind_some, grd_t (by show i64 (spU τ p); exact ⟨by omega, by omega⟩), grd_t (by exact ⟨by omega, by omega⟩), grd_t (by omega), td_pos (show 0 ≤ spU τ p by omega)]
  have sl : Pt_spanLower N π σ2 r = some (σ2, spD τ p / gC (spU τ p) (spD τ p)) := by
    rw [Pt_spanLower, grd_t b1, b2, grd_t b5, ec, eb, ea, ed, grd_t (by exact ⟨by omega, by omega⟩), grd_t (by exact ⟨by omega, by omega⟩), grd_t (by exact ⟨by omega, by omega⟩), grd_t (by exact ⟨by omega, by omega⟩), bnd, bnd, gc, Option.bind_some, grd_t (by show i64 (spD τ p); exact ⟨by omega, by omega⟩), grd_t (by exact ⟨by omega, by omega⟩), grd_t (by omega), td_pos (show 0 ≤ spD τ p by omega)]
  have e : Rw_squeeze N (Rw_rowC N d) π σ r c = some σ3 := by
    rw [Rw_squeeze, grd_t a1, grd_t a6, grd_t (by exact ⟨by omega, by omega, by omega⟩), q1, Option.bind_some, su, Option.bind_some, sl, Option.bind_some, b3, grd_t b6, grd_t (by exact ⟨by omega, by omega, by omega⟩), c1, grd_t c2, b4, c3, grd_t (by exact ⟨by omega, by omega⟩), grd_t (show i64 (spD τ p / gC (spU τ p) (spD τ p) * gr τ (kd τ p 0)) from ⟨by omega, by omega⟩), grd_t (show ¬ spD τ p / gC (spU τ p) (spD τ p) * gr τ (kd τ p 0) = 0 by omega), bnd, grd_t a5, ea, grd_t (by exact ⟨by omega, by omega⟩), eb, grd_t (by exact ⟨by omega, by omega⟩), show max 1 (el τ 68 p) = el τ 68 p by omega, grd_t (by exact ⟨by omega, by omega⟩), grd_t (by exact ⟨by omega, by omega⟩), grd_t (by exact ⟨by omega, by omega⟩), grd_t (by omega), td_pos (show 0 ≤ gr τ p by omega), td_pos (show 0 ≤ gr τ p by omega), q3, Option.bind_some]
  have er : rowK τ (rowL τ d) p c = mv (spU τ p / gC (spU τ p) (spD τ p) * (gr τ p / (spD τ p / gC (spU τ p) (spD τ p) * gr τ (kd τ p 0)))) (el τ 69 p * (gr τ p / el τ 68 p)) (rowL τ d (kd τ p 0) c) := by
    unfold rowK
    simp only [hK]
    rfl
  rw [e, er]
  exact q4
end CK6
