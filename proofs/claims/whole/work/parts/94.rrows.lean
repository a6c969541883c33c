/-! rows of the reference: several rows of one kid -/
section RY
variable {N : Nat} {τ0 : St} {d : Nat} {k p c : Int}
/-- a row behind what is there, clipped -/
theorem NR.clp {τs τ : St} {e : Int} {A L : List Evt} (h : PR2 N τ0 d k p c e) (hA : NR τ0 τs k p c e (A ++ L) τ) (hl : e + A.length + L.length ≤ 29999) {lo hi : Int} (h64 : i64 lo ∧ i64 hi) (hb : ∀ x ∈ L, i64 x.1) : ∃ τ', r_clip N τ (e + A.length) lo hi = some τ' ∧ NR τ0 τs k p c e (A ++ L.filter (inW lo hi)) τ' ∧ ∀ a, a < 43 → el τ' a k = el τ a k := by
  obtain ⟨hHR, hT, hC, k0, k1, e0, e1, hN⟩ := h
  obtain ⟨τ', q1, q2, q3, q4⟩ := r_clip' (N := N) (lo := lo) (hi := hi) (by omega) h64 hA.2.2.2.2.2.2.2.rt hb (by omega) (by rw [hA.2.2.2.2.2.2.1, List.length_append]; omega) (by rw [hA.2.2.2.2.2.2.1, List.length_append]; omega)
  exact ⟨τ', q1, hA.ev q2 (by rw [q3]) q4, fun a ha => q2.2.1 a k (Or.inl ha)⟩
/-- rows j, j + 1, .. of the only kid: the loop of rows for stretched and shifted ones -/
theorem rk_rows {τ : St} (h : PR2 N τ0 d k p c (fl τ 84 0)) (hK : el τ0 70 p = 9 ∨ el τ0 70 p = 10 ∨ el τ0 70 p = 11 ∨ el τ0 70 p = 17) (hm : el τ0 64 p = 1) (hw : wk τ0 (kd τ0 p 0) ≤ wk τ0 p) {f : Int} {b : Int → Int} (hf : 1 ≤ f ∧ f ≤ 1000000) {start last : Int} (hlast : -100000000000 ≤ last ∧ last ≤ 100000000000)
    (hcb : ∀ j, start ≤ j → j ≤ last → -1000000000000 ≤ b j ∧ b j ≤ 1000000000000) (hmv : ∀ (τ2 : St) (A L : List Evt) (j : Int), NR τ0 τ k p c (fl τ 84 0) (A ++ ab (j * gr τ0 (kd τ0 p 0)) L) τ2 → el τ2 38 k = fl τ 84 0 + A.length → el τ2 40 k = 1 → el τ2 37 k = 0 → fl τ 84 0 + A.length + L.length ≤ 29999 → ∃ τ3, (r_rows N τ2 k p c = r_rows_105 N τ3 k p c) ∧ NR τ0 τ k p c (fl τ 84 0) (A ++ ab (c * gr τ0 p) (mv f (b j) L)) τ3 ∧ ∀ a, a < 43 → el τ3 a k = el τ2 a k) : ∀ (m : Nat) (j : Int) (τ2 : St) (A : List Evt), NR τ0 τ k p c (fl τ 84 0) A τ2 → el τ2 34 k = j → el τ2 33 k = last → A.length + m * cw τ0 (kd τ0 p 0) ≤ cw τ0 p → last + 1 - j = m → (∀ i, j ≤ i → i ≤ last → CB τ0 d (kd τ0 p 0) i) → -100000000000 ≤ j → j ≤ 100000000001 → start ≤ j → (∃ B, A = ab (c * gr τ0 p) B) → ∃ R, r_rows_145 N τ2 k p = R ∧ ((∃ τ3, R = some (τ3, 0) ∧ NR τ0 τ k p c (fl τ 84 0) (A ++ ab (c * gr τ0 p) (rwsL (rowL τ0 d (kd τ0 p 0)) f b (gr τ0 p) m j)) τ3) ∨ (∃ τ1 κ τ3 M, R = some (τ1, 1) ∧ κ ≤ sbd d ∧ Rnd N κ τ1 τ3 ∧ NR τ0 τ k p c (fl τ 84 0) M τ3 ∧ GO N τ k (fl τ 84 0) (A ++ ab (c * gr τ0 p) (rwsL (rowL τ0 d (kd τ0 p 0)) f b (gr τ0 p) m j)) τ3 (1 + m * (sbd d + 1)))) := by
  obtain ⟨hHR, hT, hC, k0, k1, e0, e1, hN⟩ := id h
  obtain ⟨⟨g1, g2⟩, ⟨cp1, cp2⟩, -, ⟨wp1, wp2⟩, -⟩ := hT.2.1
  have pp := hT.pos
  have cb := hC.abs hT.2.1
  have ph := phi_lo (show 0 ≤ wk τ0 p by omega)
  obtain ⟨kt, kr⟩ := h.kn (i := 0) (by omega) (by omega)
  obtain ⟨⟨kg1, kg2⟩, ⟨kc1, kc2⟩, -, ⟨kw1, kw2⟩, -⟩ := kr
  have pm := phi_mono hw wp2
  intro m
  induction m with
  | zero =>
    intro j τ2 A hA h34 h33 hl hlj hcbk j0 j1 js hB
    refine ⟨_, rfl, Or.inl ⟨τ2, ?_, by rw [rwsL]; show NR _ _ _ _ _ _ (A ++ []) _; rw [List.append_nil]; exact hA⟩⟩
    rw [r_rows_145, grd_t (by exact ⟨by omega, by omega⟩), h34, h33, grd_t (by exact ⟨by omega, by omega⟩), grd_t (by exact ⟨by omega, by omega⟩), if_pos (by omega), grd_t (by exact ⟨by omega, by omega⟩), hA.t 70 _ (by decide), grd_t (by exact ⟨by omega, by omega⟩), if_neg (by omega)]
  | succ m ih =>
    intro j τ2 A hA h34 h33 hl hlj hcbk j0 j1 js hB
    have e3 : ((m + 1 : Nat) : Int) * cw τ0 (kd τ0 p 0) = m * cw τ0 (kd τ0 p 0) + cw τ0 (kd τ0 p 0) := by rw [Int.natCast_add, Int.add_mul]; omega
    rw [e3] at hl
    have mc : 0 ≤ (m : Int) * cw τ0 (kd τ0 p 0) := Int.mul_nonneg (by omega) kc1
    obtain ⟨τ1, κ, τ3, q1, q2, q3, q4, q5, q6, q7, q8, q9, q10, q11⟩ := hA.kid h (i := 0) (c' := j) (by omega) (by omega) (hcbk j (Int.le_refl _) (by omega)) (by omega)
    have gd := row_good d (kd τ0 p 0) j kt
    have gl := gd.1
    refine ⟨some (τ1, 1), ?_, Or.inr ⟨τ1, κ, τ3, _, rfl, q2, q3, q4, ?_⟩⟩
    · rw [r_rows_145, grd_t (by exact ⟨by omega, by omega⟩), h34, h33, grd_t (by exact ⟨by omega, by omega⟩), grd_t (by exact ⟨by omega, by omega⟩), if_neg (by omega), q1, Option.bind_some]
    · -- back from the kid
      obtain ⟨τ4, y1, y2, y3⟩ := hmv τ3 A (rowL τ0 d (kd τ0 p 0) j) j q4 q5 q6 q7 (by omega)
      have bj := hcb j js (by omega)
      have gm := gd.2.1.mvd (b := b j) hf.1
      have uk : gr τ0 (kd τ0 p 0) * f ≤ 1000000 * 1000000 := Int.mul_le_mul kg2 hf.2 (by omega) (by omega)
      have c1G : (c + 1) * gr τ0 p = c * gr τ0 p + gr τ0 p := by rw [Int.add_mul]; omega
      obtain ⟨τ5, w1, w2, w3⟩ := NR.clp h y2 (by rw [ab_len, mv_len]; omega) (lo := c * gr τ0 p) (hi := (c + 1) * gr τ0 p) ⟨⟨by omega, by omega⟩, ⟨by omega, by omega⟩⟩ (fun x hx => by
        obtain ⟨y, hy, rfl⟩ := List.mem_map.1 hx
        have := (gm y hy).1
        show i64 (y.1 + c * gr τ0 p)
        exact ⟨by omega, by omega⟩)
      rw [ab_flt (lo := 0) (hi := gr τ0 p) (by omega) (by omega)] at w2
      have fl4 := flt_len (inW 0 (gr τ0 p)) (mv f (b j) (rowL τ0 d (kd τ0 p 0) j))
      rw [mv_len] at fl4
      have w4 := w2.se (a := 34) (by decide) (el τ5 34 k + 1)
      have e34 : el τ5 34 k = j := by rw [w3 34 (by decide), y3 34 (by decide), q10]; exact h34
      have e33 : el τ5 33 k = last := by rw [w3 33 (by decide), y3 33 (by decide), q11]; exact h33
      have e38 : el τ4 38 k = fl τ 84 0 + A.length := by rw [y3 38 (by decide)]; exact q5
      obtain ⟨B, hB⟩ := hB
      obtain ⟨R, r1, r2⟩ := ih (j + 1) _ _ w4 (by rw [el_ses, e34]) (by rw [el_sen _ _ _ _ (by decide)]; exact e33) (by rw [List.length_append, ab_len]; omega) (by omega) (fun i i0 i1 => hcbk i (by omega) i1) (by omega) (by omega) (by omega) ⟨B ++ (mv f (b j) (rowL τ0 d (kd τ0 p 0) j)).filter (inW 0 (gr τ0 p)), by rw [ab_app, hB]⟩
      have rr : r_rows N τ3 k p c = R := by
        rw [y1, r_rows_105, grd_t (by exact ⟨by omega, by omega⟩), grd_t (by exact ⟨by omega, by omega⟩), y2.t 63 _ (by decide), show el τ0 63 p = gr τ0 p from rfl, grd_t (by exact ⟨by omega, by omega⟩), e38, w1, Option.bind_some]
        exact r1
      obtain ⟨-, st⟩ := r_step_k h q4
      have ss := st (r_rows N τ3 k p c) (Or.inr (Or.inr (Or.inr (Or.inr (Or.inr (Or.inl ⟨by omega, rfl⟩))))))
      rw [rr] at ss
      have eL : A ++ ab (c * gr τ0 p) (rwsL (rowL τ0 d (kd τ0 p 0)) f b (gr τ0 p) (m + 1) j) = (A ++ ab (c * gr τ0 p) ((mv f (b j) (rowL τ0 d (kd τ0 p 0) j)).filter (inW 0 (gr τ0 p)))) ++ ab (c * gr τ0 p) (rwsL (rowL τ0 d (kd τ0 p 0)) f b (gr τ0 p) m (j + 1)) := by
        rw [rwsL, ab_app, List.append_assoc]
      rw [eL]
      rcases r2 with ⟨τ6, x1, x2⟩ | ⟨τ6, κ2, τ7, M, x1, x2, x3, x4, x5⟩
      · rw [x1, fin0] at ss
        refine (GO.done h q4 ss x2).wk ?_
        omega
      · rw [x1, fin1] at ss
        refine (GO.call h q4 ss x3 x2 x5).wk ?_
        rw [Nat.succ_mul]
        omega
theorem rwsL_sh {R : Int → List Evt} {f G c : Int} {b : Int → Int} : ∀ (m : Nat) (j : Int), rwsL (fun j => R (c + j)) f b G m j = rwsL R f (fun i => b (i - c)) G m (c + j)
  | 0, _ => rfl
  | m + 1, j => by
    rw [rwsL, rwsL, rwsL_sh m (j + 1), show c + j - c = j by omega, show c + j + 1 = c + (j + 1) by omega]
/-- the whole of a node of rows, from its span on -/
theorem rk_span {τ τa : St} (h : PR2 N τ0 d k p c (fl τ 84 0)) (tb : TB τ0 τ) (hF : FRM τ k p c) (hK : el τ0 70 p = 9 ∨ el τ0 70 p = 10 ∨ el τ0 70 p = 11 ∨ el τ0 70 p = 17) (hm : el τ0 64 p = 1) (hw : wk τ0 (kd τ0 p 0) ≤ wk τ0 p) {f : Int} {b : Int → Int} (hf : 1 ≤ f ∧ f ≤ 1000000) {j last : Int} {m : Nat} (hlast : -100000000000 ≤ last ∧ last ≤ 100000000000)
    (hcb : ∀ i, j ≤ i → i ≤ last → -1000000000000 ≤ b i ∧ b i ≤ 1000000000000) (hmv : ∀ (τ2 : St) (A L : List Evt) (j : Int), NR τ0 τ k p c (fl τ 84 0) (A ++ ab (j * gr τ0 (kd τ0 p 0)) L) τ2 → el τ2 38 k = fl τ 84 0 + A.length → el τ2 40 k = 1 → el τ2 37 k = 0 → fl τ 84 0 + A.length + L.length ≤ 29999 → ∃ τ3, (r_rows N τ2 k p c = r_rows_105 N τ3 k p c) ∧ NR τ0 τ k p c (fl τ 84 0) (A ++ ab (c * gr τ0 p) (mv f (b j) L)) τ3 ∧ ∀ a, a < 43 → el τ3 a k = el τ2 a k) (hsp : r_span N τ k p c = some τa) (hA : NR τ0 τ k p c (fl τ 84 0) [] τa) (h34 : el τa 34 k = j) (h33 : el τa 33 k = last) (hl : m * cw τ0 (kd τ0 p 0) ≤ cw τ0 p) (hlj : last + 1 - j = m) (hcbk : ∀ i, j ≤ i → i ≤ last → CB τ0 d (kd τ0 p 0) i) (j0 : -100000000000 ≤ j) (j1 : j ≤ 100000000001) : GO N τ k (fl τ 84 0) (ab (c * gr τ0 p) (rwsL (rowL τ0 d (kd τ0 p 0)) f b (gr τ0 p) m j)) τ (1 + m * (sbd d + 1) + (sbd d + 1)) := by
  obtain ⟨hHR, hT, hC, k0, k1, e0, e1, hN⟩ := id h
  have pp := hT.pos
  have hA0 := NR.rf (τ0 := τ0) tb hF
  obtain ⟨R, r1, r2⟩ := rk_rows h hK hm hw hf (start := j) hlast hcb hmv m j τa [] hA h34 h33 (by simpa using hl) hlj hcbk j0 j1 (Int.le_refl _) ⟨[], rfl⟩
  have rr : r_rows N τ k p c = R := by
    rw [r_rows, grd_t (by exact ⟨by omega, by omega⟩), hF.2.2.2.1, grd_t (by decide), if_pos rfl, hsp, Option.bind_some]
    exact r1
  obtain ⟨-, st⟩ := r_step_k h hA0
  have ss := st (r_rows N τ k p c) (Or.inr (Or.inr (Or.inr (Or.inr (Or.inr (Or.inl ⟨by omega, rfl⟩))))))
  rw [rr] at ss
  simp only [List.nil_append] at r2
  rcases r2 with ⟨τ6, x1, x2⟩ | ⟨τ6, κ2, τ7, M, x1, x2, x3, x4, x5⟩
  · rw [x1, fin0] at ss
    exact (GO.done h hA0 ss x2).wk (by omega)
  · rw [x1, fin1] at ss
    exact GO.call h hA0 ss x3 x2 x5
theorem rk_9 {τ : St} (h : PR2 N τ0 d k p c (fl τ 84 0)) (tb : TB τ0 τ) (hF : FRM τ k p c) (hK : el τ0 70 p = 9) (hn : NK9 τ0 p) : GO N τ k (fl τ 84 0) (ab (c * gr τ0 p) (rowK τ0 (rowL τ0 d) p c)) τ (1 + 200 * (sbd d + 1) + (sbd d + 1)) := by
  obtain ⟨n1, ⟨n2, n2'⟩, ⟨n3, n3'⟩, n4, n5, n6, n7⟩ := id hn
  obtain ⟨hHR, hT, hC, k0, k1, e0, e1, hN⟩ := id h
  obtain ⟨⟨g1, g2⟩, ⟨cp1, cp2⟩, -, ⟨wp1, wp2⟩, -⟩ := hT.2.1
  have pp := hT.pos
  have cb := hC.abs hT.2.1
  obtain ⟨kt, kr⟩ := h.kn (i := 0) (by omega) (by omega)
  obtain ⟨⟨kg1, kg2⟩, ⟨kc1, kc2⟩, -, ⟨kw1, kw2⟩, -⟩ := kr
  have e4 : (c + 1) * el τ0 69 p = c * el τ0 69 p + el τ0 69 p := by rw [Int.add_mul]; omega
  have u5 : -640000000000 ≤ c * el τ0 69 p ∧ c * el τ0 69 p ≤ 640000000000 := by
    by_cases hc : 0 ≤ c
    · have a1 : c * el τ0 69 p ≤ c * 64 := Int.mul_le_mul_of_nonneg_left n2' hc
      have := Int.mul_nonneg hc (show 0 ≤ el τ0 69 p by omega)
      omega
    · have a1 : c * el τ0 69 p ≤ 0 := Int.mul_nonpos_of_nonpos_of_nonneg (by omega) (by omega)
      have a2 : c * 64 ≤ c * el τ0 69 p := Int.mul_le_mul_of_nonpos_left (by omega) n2'
      omega
  have d1 := Int.emod_add_mul_ediv (c * el τ0 69 p) (el τ0 68 p)
  have d2 := Int.emod_add_mul_ediv ((c + 1) * el τ0 69 p - 1) (el τ0 68 p)
  have x0 := Int.emod_nonneg (c * el τ0 69 p) (show el τ0 68 p ≠ 0 by omega)
  have x1 := Int.emod_lt_of_pos (c * el τ0 69 p) (show 0 < el τ0 68 p by omega)
  have y0 := Int.emod_nonneg ((c + 1) * el τ0 69 p - 1) (show el τ0 68 p ≠ 0 by omega)
  have y1 := Int.emod_lt_of_pos ((c + 1) * el τ0 69 p - 1) (show 0 < el τ0 68 p by omega)
  have le1 : c * el τ0 69 p / el τ0 68 p ≤ ((c + 1) * el τ0 69 p - 1) / el τ0 68 p := Int.ediv_le_ediv (by omega) (by omega)
  have cc := ceil_count (c := c) n2 n3
  have qc0 : 1 ≤ (el τ0 69 p + el τ0 68 p - 1) / el τ0 68 p := by
    rw [Int.le_ediv_iff_mul_le (by omega)]
    omega
  have qc1 : el τ0 69 p ≤ (el τ0 69 p + el τ0 68 p - 1) / el τ0 68 p * el τ0 68 p := by
    have d2 := Int.emod_add_mul_ediv (el τ0 69 p + el τ0 68 p - 1) (el τ0 68 p)
    have y1 := Int.emod_lt_of_pos (el τ0 69 p + el τ0 68 p - 1) (show 0 < el τ0 68 p by omega)
    rw [Int.mul_comm]
    omega
  have tq : 1 ≤ (el τ0 69 p + el τ0 68 p - 1) / el τ0 68 p + (if el τ0 68 p = 1 then 0 else 1) ∧ (el τ0 69 p + el τ0 68 p - 1) / el τ0 68 p ≤ (el τ0 69 p + el τ0 68 p - 1) / el τ0 68 p + (if el τ0 68 p = 1 then 0 else 1) := by split <;> omega
  have w0 : wk τ0 (kd τ0 p 0) ≤ wk τ0 p := by
    have := Int.mul_le_mul_of_nonneg_right tq.1 (show 0 ≤ wk τ0 (kd τ0 p 0) by omega)
    omega
  have inr : ∀ j, c * el τ0 69 p / el τ0 68 p ≤ j → j ≤ ((c + 1) * el τ0 69 p - 1) / el τ0 68 p → c * el τ0 69 p - el τ0 68 p < j * el τ0 68 p ∧ j * el τ0 68 p < (c + 1) * el τ0 69 p := fun j a b => by
    have a1 := Int.mul_le_mul_of_nonneg_right a (show 0 ≤ el τ0 68 p by omega)
    have a2 := Int.mul_le_mul_of_nonneg_right b (show 0 ≤ el τ0 68 p by omega)
    rw [Int.mul_comm (c * el τ0 69 p / el τ0 68 p)] at a1
    rw [Int.mul_comm (((c + 1) * el τ0 69 p - 1) / el τ0 68 p)] at a2
    constructor <;> omega
  have jabs : ∀ j, c * el τ0 69 p / el τ0 68 p ≤ j → j ≤ ((c + 1) * el τ0 69 p - 1) / el τ0 68 p → CB τ0 d (kd τ0 p 0) j := fun j a b => by
    obtain ⟨hj1, hj2⟩ := inr j a b
    exact hC.kid (m := (el τ0 69 p + el τ0 68 p - 1) / el τ0 68 p + (if el τ0 68 p = 1 then 0 else 1)) tq.1 kw1 n7 (fun X x0 x1 x2 => by
      have hq : ∀ Y : Int, 0 ≤ Y → Y * el τ0 69 p ≤ Y * ((el τ0 69 p + el τ0 68 p - 1) / el τ0 68 p) * el τ0 68 p := fun Y hY => by
        rw [Int.mul_assoc]
        exact Int.mul_le_mul_of_nonneg_left qc1 hY
      have h1 := hq (X + 1) (by omega)
      have u1 : (c + 1) * el τ0 69 p ≤ (X + 1) * el τ0 69 p := Int.mul_le_mul_of_nonneg_right (by omega) (by omega)
      have u2 : -X * el τ0 69 p ≤ c * el τ0 69 p := Int.mul_le_mul_of_nonneg_right x1 (by omega)
      rw [Int.neg_mul] at u2
      have h2 := hq X x0
      have v1 : j < (X + 1) * ((el τ0 69 p + el τ0 68 p - 1) / el τ0 68 p) := by
        refine Int.lt_of_mul_lt_mul_right (a := el τ0 68 p) ?_ (by omega)
        omega
      have v2 : -(X * ((el τ0 69 p + el τ0 68 p - 1) / el τ0 68 p)) - 1 < j := by
        refine Int.lt_of_mul_lt_mul_right (a := el τ0 68 p) ?_ (by omega)
        rw [Int.sub_mul, Int.neg_mul]
        omega
      have w1 : (X + 1) * ((el τ0 69 p + el τ0 68 p - 1) / el τ0 68 p) ≤ (X + 65) * ((el τ0 69 p + el τ0 68 p - 1) / el τ0 68 p + (if el τ0 68 p = 1 then 0 else 1)) := Int.mul_le_mul (by omega) tq.2 (by omega) (by omega)
      have w2 : X * ((el τ0 69 p + el τ0 68 p - 1) / el τ0 68 p) + 1 ≤ (X + 65) * ((el τ0 69 p + el τ0 68 p - 1) / el τ0 68 p) := by rw [Int.add_mul X]; omega
      have w3 : (X + 65) * ((el τ0 69 p + el τ0 68 p - 1) / el τ0 68 p) ≤ (X + 65) * ((el τ0 69 p + el τ0 68 p - 1) / el τ0 68 p + (if el τ0 68 p = 1 then 0 else 1)) := Int.mul_le_mul_of_nonneg_left tq.2 (by omega)
      constructor <;> omega)
  have ja := jabs _ (Int.le_refl _) le1
  have jb := jabs _ le1 (Int.le_refl _)
  have ja2 := ja.abs (h.kn (i := 0) (by omega) (by omega)).2
  have jb2 := jb.abs (h.kn (i := 0) (by omega) (by omega)).2
  have small : (el τ0 69 p + el τ0 68 p - 1) / el τ0 68 p + (if el τ0 68 p = 1 then 0 else 1) ≤ 129 := by
    have := Int.ediv_le_self (el τ0 68 p) (show 0 ≤ el τ0 69 p + el τ0 68 p - 1 by omega)
    split <;> omega
  have cm : ((((c + 1) * el τ0 69 p - 1) / el τ0 68 p - c * el τ0 69 p / el τ0 68 p + 1).toNat : Int) * cw τ0 (kd τ0 p 0) ≤ cw τ0 p := Int.le_trans (Int.mul_le_mul_of_nonneg_right cc kc1) n5
  have dv3 : ((c + 1) * el τ0 69 p + el τ0 68 p - 1) / el τ0 68 p - 1 = ((c + 1) * el τ0 69 p - 1) / el τ0 68 p := by
    rw [show (c + 1) * el τ0 69 p + el τ0 68 p - 1 = ((c + 1) * el τ0 69 p - 1) + el τ0 68 p * 1 by omega, Int.add_mul_ediv_left _ _ (by omega)]
    omega
  have er : rowK τ0 (rowL τ0 d) p c = rwsL (rowL τ0 d (kd τ0 p 0)) (el τ0 68 p) (fun j => (j * el τ0 68 p - c * el τ0 69 p) * gr τ0 (kd τ0 p 0)) (gr τ0 p) (((c + 1) * el τ0 69 p - 1) / el τ0 68 p - c * el τ0 69 p / el τ0 68 p + 1).toNat (c * el τ0 69 p / el τ0 68 p) := by
    unfold rowK
    simp only [hK]
    rfl
  rw [er]
  have hA0 := NR.rf (τ0 := τ0) tb hF
  refine (rk_span h tb hF (Or.inl hK) n1 w0 (f := el τ0 68 p) (b := fun j => (j * el τ0 68 p - c * el τ0 69 p) * gr τ0 (kd τ0 p 0)) ⟨n3, by omega⟩ (j := c * el τ0 69 p / el τ0 68 p) (last := ((c + 1) * el τ0 69 p - 1) / el τ0 68 p) ⟨by omega, by omega⟩ (fun i a b => ?_) (fun τ2 A L j hA h38 h40 h37 hl => ?_) (τa := se (se τ 34 k (c * el τ0 69 p / el τ0 68 p)) 33 k (((c + 1) * el τ0 69 p - 1) / el τ0 68 p)) ?_ ((hA0.se (a := 34) (by decide) _).se (a := 33) (by decide) _) ?_ (el_ses _ _ _ _) cm (by omega) jabs (by omega) (by omega)).wk ?_
  · obtain ⟨hj1, hj2⟩ := inr i a b
    have sb2 : -64 * gr τ0 (kd τ0 p 0) ≤ (i * el τ0 68 p - c * el τ0 69 p) * gr τ0 (kd τ0 p 0) := Int.mul_le_mul_of_nonneg_right (by omega) (by omega)
    have sb3 : (i * el τ0 68 p - c * el τ0 69 p) * gr τ0 (kd τ0 p 0) ≤ 64 * gr τ0 (kd τ0 p 0) := Int.mul_le_mul_of_nonneg_right (by omega) (by omega)
    constructor <;> omega
  · obtain ⟨τ3, y1, y2, y3⟩ := NR.mvd h hA (by rw [ab_len]; exact hl) (el τ0 68 p) 0
    refine ⟨τ3, ?_, ?_, y3⟩
    · rw [r_rows, grd_t (by exact ⟨by omega, by omega⟩), h40, grd_t (by decide), if_neg (by decide), grd_t (by exact ⟨by omega, by omega⟩), hA.t 70 _ (by decide), hK, grd_t (by decide), if_neg (by decide), if_pos rfl, hA.t 68 _ (by decide), grd_t (by exact ⟨by omega, by omega⟩), h38, y1, Option.bind_some]
    · rw [ab_mv (b' := (j * el τ0 68 p - c * el τ0 69 p) * gr τ0 (kd τ0 p 0)) (o' := c * gr τ0 p)] at y2
      · exact y2
      · rw [n4, Int.sub_mul, ← Int.mul_assoc, Int.mul_assoc j, Int.mul_comm (gr τ0 (kd τ0 p 0)), ← Int.mul_assoc]
        omega
  · rw [r_span, grd_t (by exact ⟨by omega, by omega⟩), tb.1 69 _ (by decide), grd_t (by exact ⟨by omega, by omega⟩), bnd, tb.1 68 _ (by decide), grd_t (by exact ⟨by omega, by omega⟩), bnd, tb.1 70 _ (by decide), hK, grd_t (by decide), if_pos rfl, r_div' ⟨by omega, by omega⟩ ⟨by omega, by omega⟩ (by omega), Option.bind_some, grd_t (by exact ⟨by omega, by omega⟩), r_div' ⟨by omega, by omega⟩ ⟨by omega, by omega⟩ (by omega), Option.bind_some, dv3]
  · rw [el_sen _ _ _ _ (by decide), el_ses]
  · have : (((c + 1) * el τ0 69 p - 1) / el τ0 68 p - c * el τ0 69 p / el τ0 68 p + 1).toNat ≤ 200 := by omega
    have := Nat.mul_le_mul_right (sbd d + 1) this
    omega
/-- shifted rows -/
theorem rk_shift {τ τa : St} (h : PR2 N τ0 d k p c (fl τ 84 0)) (tb : TB τ0 τ) (hF : FRM τ k p c) (hK : el τ0 70 p = 10 ∨ el τ0 70 p = 11 ∨ el τ0 70 p = 17) {x y : Int} {m : Nat} (hm1 : el τ0 64 p = 1) (hy : 1 ≤ y ∧ y ≤ 64) (hx : -64 ≤ x ∧ x ≤ 64) (hd : gr τ0 (kd τ0 p 0) ∣ gr τ0 p) (hw : wk τ0 (kd τ0 p 0) ≤ wk τ0 p) (hc : m * cw τ0 (kd τ0 p 0) ≤ cw τ0 p) (hm : -((-x) / y) + 1 - x / y = m) (hsp : r_span N τ k p c = some τa) (hA : NR τ0 τ k p c (fl τ 84 0) [] τa) (h34 : el τa 34 k = c + x / y) (h33 : el τa 33 k = c + -((-x) / y)) (hsh : ∀ τ2, TB τ0 τ2 → r_shift N τ2 p c = some (τ2, -(x * (gr τ0 p / y)))) : GO N τ k (fl τ 84 0) (ab (c * gr τ0 p) (rwsL (fun j => rowL τ0 d (kd τ0 p 0) (c + j)) (gr τ0 p / gr τ0 (kd τ0 p 0)) (fun j => j * gr τ0 p - x * (gr τ0 p / y)) (gr τ0 p) m (x / y))) τ (1 + m * (sbd d + 1) + (sbd d + 1)) := by
  obtain ⟨hHR, hT, hC, k0, k1, e0, e1, hN⟩ := id h
  obtain ⟨⟨g1, g2⟩, ⟨cp1, cp2⟩, -, ⟨wp1, wp2⟩, -⟩ := hT.2.1
  have pp := hT.pos
  have cb := hC.abs hT.2.1
  obtain ⟨kt, kr⟩ := h.kn (i := 0) (by omega) (by omega)
  obtain ⟨⟨kg1, kg2⟩, ⟨kc1, kc2⟩, -, ⟨kw1, kw2⟩, -⟩ := kr
  have jb : ∀ x : Int, -64 ≤ x → x ≤ 64 → -64 ≤ x / y ∧ x / y ≤ 64 := by
    intro x h1 h2
    constructor
    · rw [Int.le_ediv_iff_mul_le (by omega)]
      have := Int.mul_le_mul_of_nonpos_left (a := -64) (by omega) hy.1
      omega
    · by_cases hx : 0 ≤ x
      · have := Int.ediv_le_self y hx
        omega
      · have := Int.ediv_neg_of_neg_of_pos (show x < 0 by omega) (show 0 < y by omega)
        omega
  have j1 := jb x hx.1 hx.2
  have j2 := jb (-x) (by omega) (by omega)
  have dp := dv_pos hd kg1 g1
  have dm := dv_mul hd
  have dl : gr τ0 p / gr τ0 (kd τ0 p 0) ≤ gr τ0 p := Int.ediv_le_self _ (by omega)
  have q0 : 0 ≤ gr τ0 p / y := Int.ediv_nonneg (by omega) (by omega)
  have ql : gr τ0 p / y ≤ gr τ0 p := Int.ediv_le_self _ (by omega)
  have s3 : -64 * (gr τ0 p / y) ≤ x * (gr τ0 p / y) := Int.mul_le_mul_of_nonneg_right hx.1 q0
  have s4 : x * (gr τ0 p / y) ≤ 64 * (gr τ0 p / y) := Int.mul_le_mul_of_nonneg_right hx.2 q0
  rw [rwsL_sh]
  refine rk_span h tb hF (Or.inr hK) hm1 hw (f := gr τ0 p / gr τ0 (kd τ0 p 0)) (b := fun i => (i - c) * gr τ0 p - x * (gr τ0 p / y)) ⟨dp, by omega⟩ (j := c + x / y) (last := c + -((-x) / y)) ⟨by omega, by omega⟩ (fun i a b => ?_) (fun τ2 A L j hA h38 h40 h37 hl => ?_) hsp hA h34 h33 hc (by omega) (fun i a b => hC.same kw1 hw (by omega) (by omega)) (by omega) (by omega)
  · have s1 : -65 * gr τ0 p ≤ (i - c) * gr τ0 p := Int.mul_le_mul_of_nonneg_right (by omega) (by omega)
    have s2 : (i - c) * gr τ0 p ≤ 65 * gr τ0 p := Int.mul_le_mul_of_nonneg_right (by omega) (by omega)
    constructor <;> omega
  · obtain ⟨τ3, y1, y2, y3⟩ := NR.mvd h hA (by rw [ab_len]; exact hl) (gr τ0 p / gr τ0 (kd τ0 p 0)) (-(x * (gr τ0 p / y)))
    refine ⟨τ3, ?_, ?_, y3⟩
    · rw [r_rows, grd_t (by exact ⟨by omega, by omega⟩), h40, grd_t (by decide), if_neg (by decide), grd_t (by exact ⟨by omega, by omega⟩), hA.t 70 _ (by decide), grd_t (by exact ⟨by omega, by omega⟩), if_neg (by omega), if_neg (by omega), hA.t 63 _ (by decide), show el τ0 63 p = gr τ0 p from rfl, grd_t (by exact ⟨by omega, by omega⟩), hA.grn h h37 (by omega) (by omega), Option.bind_some, grd_t (by exact ⟨by omega, by omega⟩), grd_t (by exact ⟨by omega, by omega⟩), grd_t (by omega), hsh τ2 hA.1, Option.bind_some, td_pos (by omega), h38, y1, Option.bind_some]
    · rw [ab_mv (b' := (j - c) * gr τ0 p - x * (gr τ0 p / y)) (o' := c * gr τ0 p)] at y2
      · exact y2
      · rw [Int.mul_assoc, Int.mul_comm (gr τ0 (kd τ0 p 0)), dm, Int.sub_mul]
        omega
theorem rk_10 {τ : St} (h : PR2 N τ0 d k p c (fl τ 84 0)) (tb : TB τ0 τ) (hF : FRM τ k p c) (hK : el τ0 70 p = 10) (hn : NK10 τ0 p) : GO N τ k (fl τ 84 0) (ab (c * gr τ0 p) (rowK τ0 (rowL τ0 d) p c)) τ (1 + 2 * (sbd d + 1) + (sbd d + 1)) := by
  obtain ⟨m1, m2, m3, m4, m5, m6, m7, m8, m9⟩ := hn
  obtain ⟨hHR, hT, hC, k0, k1, e0, e1, hN⟩ := id h
  obtain ⟨⟨g1, g2⟩, -⟩ := hT.2.1
  have pp := hT.pos
  have cnt := shf_count m3.1 m4
  have hA0 := NR.rf (τ0 := τ0) tb hF
  have q0 : 0 ≤ gr τ0 p / el τ0 68 p := Int.ediv_nonneg (by omega) (by omega)
  have ql : gr τ0 p / el τ0 68 p ≤ gr τ0 p := Int.ediv_le_self _ (by omega)
  have er : rowK τ0 (rowL τ0 d) p c = rwsL (fun j => rowL τ0 d (kd τ0 p 0) (c + j)) (gr τ0 p / gr τ0 (kd τ0 p 0)) (fun j => j * gr τ0 p - el τ0 69 p * (gr τ0 p / el τ0 68 p)) (gr τ0 p) (if el τ0 68 p = 1 then 1 else 2) (el τ0 69 p / el τ0 68 p) := by unfold rowK; simp only [hK]; rfl
  rw [er]
  refine (rk_shift h tb hF (Or.inl hK) (x := el τ0 69 p) (y := el τ0 68 p) (m := if el τ0 68 p = 1 then 1 else 2) (τa := se (se τ 34 k (c + el τ0 69 p / el τ0 68 p)) 33 k (c + -((-el τ0 69 p) / el τ0 68 p))) m1 m3 ⟨by omega, m2.2⟩ m5 m9 (by rw [ite_cast]; exact m7) (by rw [ite_cast]; exact cnt) ?_ ((hA0.se (a := 34) (by decide) _).se (a := 33) (by decide) _) ?_ (el_ses _ _ _ _) (fun τ2 t2 => ?_)).wk ?_
  · rw [r_span, grd_t (by exact ⟨by omega, by omega⟩), tb.1 69 _ (by decide), grd_t (by exact ⟨by omega, by omega⟩), bnd, tb.1 68 _ (by decide), grd_t (by exact ⟨by omega, by omega⟩), bnd, tb.1 70 _ (by decide), hK, grd_t (by decide), if_neg (by decide), if_pos rfl, grd_t (by exact ⟨by omega, by omega⟩), grd_t (by exact ⟨by omega, by omega⟩), grd_t (by omega), grd_t (by exact ⟨by omega, by omega⟩), td_pos m2.1]
    by_cases c1 : el τ0 68 p = 1
    · rw [if_pos c1] at cnt
      rw [if_pos c1, r_span_154, grd_t (by exact ⟨by omega, by omega⟩), show c + el τ0 69 p / el τ0 68 p + 0 = c + -((-el τ0 69 p) / el τ0 68 p) by omega]
    · rw [if_neg c1] at cnt
      rw [if_neg c1, r_span_154, grd_t (by exact ⟨by omega, by omega⟩), show c + el τ0 69 p / el τ0 68 p + 1 = c + -((-el τ0 69 p) / el τ0 68 p) by omega]
  · rw [el_sen _ _ _ _ (by decide), el_ses]
  · rw [r_shift, grd_t (by exact ⟨by omega, by omega⟩), t2.1 70 _ (by decide), hK, grd_t (by decide), if_neg (by decide), t2.1 69 _ (by decide), grd_t (by exact ⟨by omega, by omega⟩), t2.1 63 _ (by decide), show el τ0 63 p = gr τ0 p from rfl, grd_t (by exact ⟨by omega, by omega⟩), t2.1 68 _ (by decide), grd_t (by exact ⟨by omega, by omega⟩), grd_t (by omega), td_pos (by omega), grd_t (by exact ⟨by omega, by omega⟩), bnd, if_pos rfl]
  · have : (if el τ0 68 p = 1 then 1 else 2) ≤ 2 := by split <;> omega
    have := Nat.mul_le_mul_right (sbd d + 1) this
    omega
theorem rk_11 {τ : St} (h : PR2 N τ0 d k p c (fl τ 84 0)) (tb : TB τ0 τ) (hF : FRM τ k p c) (hK : el τ0 70 p = 11) (hn : NK10 τ0 p) : GO N τ k (fl τ 84 0) (ab (c * gr τ0 p) (rowK τ0 (rowL τ0 d) p c)) τ (1 + 2 * (sbd d + 1) + (sbd d + 1)) := by
  obtain ⟨m1, m2, m3, m4, m5, m6, m7, m8, m9⟩ := hn
  obtain ⟨hHR, hT, hC, k0, k1, e0, e1, hN⟩ := id h
  obtain ⟨⟨g1, g2⟩, -⟩ := hT.2.1
  have pp := hT.pos
  have cnt := shf_count m3.1 m4
  have m4' : el τ0 68 p = 1 ∨ (-el τ0 69 p) % el τ0 68 p ≠ 0 := m4.imp id (fun k e => k (by
    have := Int.dvd_of_emod_eq_zero e
    exact Int.emod_eq_zero_of_dvd ((Int.dvd_neg).1 this)))
  have cnt2 := shf_count m3.1 m4'
  rw [Int.neg_neg] at cnt2
  have hA0 := NR.rf (τ0 := τ0) tb hF
  have q0 : 0 ≤ gr τ0 p / el τ0 68 p := Int.ediv_nonneg (by omega) (by omega)
  have ql : gr τ0 p / el τ0 68 p ≤ gr τ0 p := Int.ediv_le_self _ (by omega)
  have er : rowK τ0 (rowL τ0 d) p c = rwsL (fun j => rowL τ0 d (kd τ0 p 0) (c + j)) (gr τ0 p / gr τ0 (kd τ0 p 0)) (fun j => j * gr τ0 p - -el τ0 69 p * (gr τ0 p / el τ0 68 p)) (gr τ0 p) (if el τ0 68 p = 1 then 1 else 2) (-el τ0 69 p / el τ0 68 p) := by unfold rowK; simp only [hK]; rfl
  rw [er]
  refine (rk_shift h tb hF (Or.inr (Or.inl hK)) (x := -el τ0 69 p) (y := el τ0 68 p) (m := if el τ0 68 p = 1 then 1 else 2) (τa := se (se τ 34 k (c + (-el τ0 69 p) / el τ0 68 p)) 33 k (c + -(el τ0 69 p / el τ0 68 p))) m1 m3 ⟨by omega, by omega⟩ m5 m9 (by rw [ite_cast]; exact m7) (by rw [ite_cast, Int.neg_neg]; exact cnt2) ?_ ((hA0.se (a := 34) (by decide) _).se (a := 33) (by decide) _) ?_ (by rw [Int.neg_neg]; exact el_ses _ _ _ _) (fun τ2 t2 => ?_)).wk ?_
  · rw [r_span, grd_t (by exact ⟨by omega, by omega⟩), tb.1 69 _ (by decide), grd_t (by exact ⟨by omega, by omega⟩), bnd, tb.1 68 _ (by decide), grd_t (by exact ⟨by omega, by omega⟩), bnd, tb.1 70 _ (by decide), hK, grd_t (by decide), if_neg (by decide), if_neg (by decide), if_pos rfl, grd_t (by exact ⟨by omega, by omega⟩)]
    by_cases c1 : el τ0 68 p = 1
    · rw [if_pos c1] at cnt
      have e1 : el τ0 69 p / el τ0 68 p = el τ0 69 p := by rw [c1, Int.ediv_one]
      rw [if_pos c1, r_span_187, grd_t (by exact ⟨by omega, by omega⟩), grd_t (by exact ⟨by omega, by omega⟩), if_pos c1, r_span_214, grd_t (by exact ⟨by omega, by omega⟩), show c - el τ0 69 p = c + (-el τ0 69 p) / el τ0 68 p by omega, show c + (-el τ0 69 p) / el τ0 68 p = c + -(el τ0 69 p / el τ0 68 p) by omega]
    · rw [if_neg c1] at cnt
      rw [if_neg c1, grd_t (by exact ⟨by omega, by omega⟩), grd_t (by omega), td_pos m2.1, r_span_187, grd_t (by exact ⟨by omega, by omega⟩), grd_t (by exact ⟨by omega, by omega⟩), if_neg c1, grd_t (by exact ⟨by omega, by omega⟩), grd_t (by omega), td_pos m2.1, r_span_214, grd_t (by exact ⟨by omega, by omega⟩), show c - el τ0 69 p / el τ0 68 p - 1 = c + (-el τ0 69 p) / el τ0 68 p by omega, show c - el τ0 69 p / el τ0 68 p = c + -(el τ0 69 p / el τ0 68 p) by omega]
  · rw [el_sen _ _ _ _ (by decide), el_ses]
  · rw [r_shift, grd_t (by exact ⟨by omega, by omega⟩), t2.1 70 _ (by decide), hK, grd_t (by decide), if_neg (by decide), t2.1 69 _ (by decide), grd_t (by exact ⟨by omega, by omega⟩), t2.1 63 _ (by decide), show el τ0 63 p = gr τ0 p from rfl, grd_t (by exact ⟨by omega, by omega⟩), t2.1 68 _ (by decide), grd_t (by exact ⟨by omega, by omega⟩), grd_t (by omega), td_pos (by omega), grd_t (by exact ⟨by omega, by omega⟩), bnd, if_neg (by decide), Int.neg_mul, Int.neg_neg]
  · have : (if el τ0 68 p = 1 then 1 else 2) ≤ 2 := by split <;> omega
    have := Nat.mul_le_mul_right (sbd d + 1) this
    omega
theorem rk_17 {τ : St} (h : PR2 N τ0 d k p c (fl τ 84 0)) (tb : TB τ0 τ) (hF : FRM τ k p c) (hK : el τ0 70 p = 17) (hn : NK17 τ0 p) : GO N τ k (fl τ 84 0) (ab (c * gr τ0 p) (rowK τ0 (rowL τ0 d) p c)) τ (1 + 2 * (sbd d + 1) + (sbd d + 1)) := by
  obtain ⟨m1, m2, m3, m4, m5, m6, m7⟩ := hn
  obtain ⟨hHR, hT, hC, k0, k1, e0, e1, hN⟩ := id h
  obtain ⟨⟨g1, g2⟩, -⟩ := hT.2.1
  have pp := hT.pos
  have cb := hC.abs hT.2.1
  have x0 := Int.emod_nonneg c (show el τ0 69 p ≠ 0 by omega)
  have x1 := Int.emod_lt_of_pos c (show 0 < el τ0 69 p by omega)
  have d0 : c % el τ0 69 p / el τ0 69 p = 0 := Int.ediv_eq_zero_of_lt x0 x1
  have cnt := shf_mod x0 x1
  have kc0 := (h.kn (i := 0) (by omega) (by omega)).2.2.1.1
  have hA0 := NR.rf (τ0 := τ0) tb hF
  have q0 : 0 ≤ gr τ0 p / el τ0 69 p := Int.ediv_nonneg (by omega) (by omega)
  have ql : gr τ0 p / el τ0 69 p ≤ gr τ0 p := Int.ediv_le_self _ (by omega)
  have er : rowK τ0 (rowL τ0 d) p c = rwsL (fun j => rowL τ0 d (kd τ0 p 0) (c + j)) (gr τ0 p / gr τ0 (kd τ0 p 0)) (fun j => j * gr τ0 p - c % el τ0 69 p * (gr τ0 p / el τ0 69 p)) (gr τ0 p) (if c % el τ0 69 p = 0 then 1 else 2) (c % el τ0 69 p / el τ0 69 p) := by rw [d0]; unfold rowK; simp only [hK]; rfl
  rw [er]
  refine (rk_shift h tb hF (Or.inr (Or.inr hK)) (x := c % el τ0 69 p) (y := el τ0 69 p) (m := if c % el τ0 69 p = 0 then 1 else 2) (τa := se (se τ 34 k (c + c % el τ0 69 p / el τ0 69 p)) 33 k (c + -((-(c % el τ0 69 p)) / el τ0 69 p))) m1.1 m2 ⟨by omega, by omega⟩ m3 m7 (by rw [ite_cast]; split <;> omega) (by rw [ite_cast]; exact cnt) ?_ ((hA0.se (a := 34) (by decide) _).se (a := 33) (by decide) _) ?_ (el_ses _ _ _ _) (fun τ2 t2 => ?_)).wk ?_
  · rw [r_span, grd_t (by exact ⟨by omega, by omega⟩), tb.1 69 _ (by decide), grd_t (by exact ⟨by omega, by omega⟩), bnd, tb.1 68 _ (by decide), m1.2, grd_t (by decide), bnd, tb.1 70 _ (by decide), hK, grd_t (by decide)]
    show grd (inb k 70) (Option.bind (r_mod N c (el τ0 69 p)) (fun r53 => grd (i64 r53) (if r53 = 0 then r_span_248 N (se τ 34 k c) c k else r_span_248 N (se τ 34 k c) (c + 1) k))) = _
    rw [grd_t (by exact ⟨by omega, by omega⟩), r_mod' ⟨by omega, by omega⟩ ⟨by omega, by omega⟩ (by omega), Option.bind_some, grd_t (by exact ⟨by omega, by omega⟩), d0, Int.add_zero]
    by_cases c1 : c % el τ0 69 p = 0
    · rw [if_pos c1] at cnt
      rw [if_pos c1, r_span_248, grd_t (by exact ⟨by omega, by omega⟩), show c + -((-(c % el τ0 69 p)) / el τ0 69 p) = c by omega]
    · rw [if_neg c1] at cnt
      rw [if_neg c1, r_span_248, grd_t (by exact ⟨by omega, by omega⟩), show c + -((-(c % el τ0 69 p)) / el τ0 69 p) = c + 1 by omega]
  · rw [el_sen _ _ _ _ (by decide), el_ses]
  · rw [r_shift, grd_t (by exact ⟨by omega, by omega⟩), t2.1 70 _ (by decide), hK, grd_t (by decide), if_pos rfl, t2.1 69 _ (by decide), grd_t (by exact ⟨by omega, by omega⟩), r_mod' ⟨by omega, by omega⟩ ⟨by omega, by omega⟩ (by omega), Option.bind_some, t2.1 63 _ (by decide), show el τ0 63 p = gr τ0 p from rfl, grd_t (by exact ⟨by omega, by omega⟩), grd_t (by omega), td_pos (by omega), grd_t (by exact ⟨by omega, by omega⟩), Int.neg_mul]
  · have : (if c % el τ0 69 p = 0 then 1 else 2) ≤ 2 := by split <;> omega
    have := Nat.mul_le_mul_right (sbd d + 1) this
    omega
end RY
