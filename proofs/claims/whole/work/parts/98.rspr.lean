/-! rows of the reference: spreads -/
section RQ3
variable {N : Nat} {τ0 : St} {d : Nat} {k p c : Int}
theorem rk_spr_lp {τ : St} (h : PR2 N τ0 d k p c (fl τ 84 0)) (hK : el τ0 70 p = 8) (hn : NK8 τ0 p) (ha : 1 ≤ el τ0 69 p) : ∀ (m f : Nat) (q : Int) (τ2 : St) (B : List Evt), m < f → NR τ0 τ k p c (fl τ 84 0) (ab (c * gr τ0 p) B) τ2 → el τ2 36 k = q → 0 ≤ q → q + m = el τ0 68 p → (B.length : Int) + sprN (el τ0 69 p) (el τ0 68 p) (el τ0 67 p) m q * cw τ0 (kd τ0 p 0) ≤ cw τ0 p → ∃ R, r_spreads_93 N f τ2 k p c (el τ0 68 p) = R ∧ ((∃ τ3, R = some (τ3, 0) ∧ NR τ0 τ k p c (fl τ 84 0) (ab (c * gr τ0 p) (B ++ sprL (rowL τ0 d (kd τ0 p 0) c) (el τ0 69 p) (el τ0 68 p) (el τ0 67 p) (gr τ0 (kd τ0 p 0)) m q)) τ3) ∨ (∃ τ1 κ τ3 M, R = some (τ1, 1) ∧ κ ≤ sbd d ∧ Rnd N κ τ1 τ3 ∧ NR τ0 τ k p c (fl τ 84 0) M τ3 ∧ GO N τ k (fl τ 84 0) (ab (c * gr τ0 p) (B ++ sprL (rowL τ0 d (kd τ0 p 0) c) (el τ0 69 p) (el τ0 68 p) (el τ0 67 p) (gr τ0 (kd τ0 p 0)) m q)) τ3 (1 + m * (sbd d + 2)))) := by
  obtain ⟨n1, ⟨n2, n2'⟩, ⟨n3, n3'⟩, ⟨n4, n4'⟩, n5, n6, n7, n8, n9⟩ := id hn
  obtain ⟨hHR, hT, hC, k0, k1, e0, e1, hN⟩ := id h
  obtain ⟨⟨g1, g2⟩, ⟨cp1, cp2⟩, ⟨rp1, rp2⟩, ⟨wp1, wp2⟩, -⟩ := hT.2.1
  have pp := hT.pos
  have cb := hC.abs hT.2.1
  have ph := phi_lo (show 0 ≤ wk τ0 p by omega)
  obtain ⟨kt, kr⟩ := h.kn (i := 0) (by omega) (by omega)
  obtain ⟨⟨kg1, kg2⟩, ⟨kc1, kc2⟩, -, ⟨kw1, kw2⟩, -⟩ := kr
  have kwl := n9 ha
  have pm := phi_mono kwl wp2
  have hs : gr τ0 p / el τ0 68 p = gr τ0 (kd τ0 p 0) := by rw [n5, Int.mul_ediv_cancel_left _ (by omega)]
  have g1' : gr τ0 (kd τ0 p 0) / gr τ0 (kd τ0 p 0) = 1 := Int.ediv_self (by omega)
  intro m
  induction m with
  | zero =>
    intro f q τ2 B hf hA h36 q0 hq hl
    cases f with
    | zero => omega
    | succ f =>
      refine ⟨_, rfl, Or.inl ⟨τ2, ?_, by rw [sprL, List.append_nil]; exact hA⟩⟩
      rw [r_spreads_93, grd_t (by exact ⟨by omega, by omega⟩), h36, grd_t (by exact ⟨by omega, by omega⟩), grd_t (by exact ⟨by omega, by omega⟩), if_neg (by omega), r_spreads_152, grd_t (by exact ⟨by omega, by omega⟩), h36, grd_t (by exact ⟨by omega, by omega⟩), grd_t (by exact ⟨by omega, by omega⟩), if_pos (by omega)]
  | succ m ih =>
    intro f q τ2 B hf hA h36 q0 hq hl
    cases f with
    | zero => omega
    | succ f =>
      have m0 := Int.emod_nonneg (q + el τ0 67 p) (show el τ0 68 p ≠ 0 by omega)
      have m1 := Int.emod_lt_of_pos (q + el τ0 67 p) (show 0 < el τ0 68 p by omega)
      have u0 := Int.mul_nonneg m0 n2
      have u1 : (q + el τ0 67 p) % el τ0 68 p * el τ0 69 p ≤ 32 * el τ0 69 p := Int.mul_le_mul_of_nonneg_right (by omega) n2
      have v0 := Int.emod_nonneg ((q + el τ0 67 p) % el τ0 68 p * el τ0 69 p) (show el τ0 68 p ≠ 0 by omega)
      have v1 := Int.emod_lt_of_pos ((q + el τ0 67 p) % el τ0 68 p * el τ0 69 p) (show 0 < el τ0 68 p by omega)
      have st93 : r_spreads_93 N (f + 1) τ2 k p c (el τ0 68 p) = if (q + el τ0 67 p) % el τ0 68 p * el τ0 69 p % el τ0 68 p < el τ0 69 p then r_spreads_152 N τ2 k c (el τ0 68 p) else r_spreads_93 N f (se τ2 36 k (q + 1)) k p c (el τ0 68 p) := by
        rw [r_spreads_93, grd_t (by exact ⟨by omega, by omega⟩), h36, grd_t (by exact ⟨by omega, by omega⟩), grd_t (by exact ⟨by omega, by omega⟩), if_pos (by omega), grd_t (by exact ⟨by omega, by omega⟩), hA.t 67 _ (by decide), grd_t (by exact ⟨by omega, by omega⟩), grd_t (by omega), hA.t 69 _ (by decide), tm_pos (x := q + el τ0 67 p) (by omega), grd_t (by exact ⟨by omega, by omega⟩), tm_pos u0, grd_t (by exact ⟨by omega, by omega⟩), grd_t (by exact ⟨by omega, by omega⟩)]
      rw [sprN, Int.add_mul] at hl
      have sn := sprN_nn (a := el τ0 69 p) (n := el τ0 68 p) (t := el τ0 67 p) m (q + 1)
      have snl := Int.mul_nonneg sn kc1
      by_cases cc : (q + el τ0 67 p) % el τ0 68 p * el τ0 69 p % el τ0 68 p < el τ0 69 p
      · rw [if_pos cc] at st93 hl
        obtain ⟨τ1, κ, τ3, q1, q2, q3, q4, q5, q6, q7, q8, q9, q10, q11⟩ := hA.kid h (i := 0) (c' := c) (by omega) (by omega) (hC.same kw1 kwl (by omega) (by omega)) (by rw [ab_len]; omega)
        rw [ab_len] at q5
        have gl := (row_good d (kd τ0 p 0) c kt).1
        refine ⟨some (τ1, 1), ?_, Or.inr ⟨τ1, κ, τ3, _, rfl, q2, q3, q4, ?_⟩⟩
        · rw [st93, r_spreads_152, grd_t (by exact ⟨by omega, by omega⟩), h36, grd_t (by exact ⟨by omega, by omega⟩), grd_t (by exact ⟨by omega, by omega⟩), if_neg (by omega), q1, Option.bind_some]
        · obtain ⟨τ4, y1, y2, y3⟩ := NR.mvd h q4 (by rw [ab_len, ab_len]; omega) 1 (c * gr τ0 p + q * gr τ0 (kd τ0 p 0) - c * gr τ0 (kd τ0 p 0) * 1)
          rw [ab_len] at y1
          rw [ab_mv (b' := q * gr τ0 (kd τ0 p 0)) (o' := c * gr τ0 p) _ (by omega), ← ab_app] at y2
          have e36 : el τ3 36 k = q := by rw [q8]; exact h36
          have w4 := y2.se (a := 36) (by decide) (q + 1)
          obtain ⟨R, r1, r2⟩ := ih N (q + 1) _ _ (by omega) w4 (el_ses _ _ _ _) (by omega) (by omega) (by rw [List.length_append, mv_len]; omega)
          have rr : r_spreads N τ3 k p c = R := by
            rw [r_spreads, grd_t (by exact ⟨by omega, by omega⟩), q4.t 68 _ (by decide), bnd, q4.t 63 _ (by decide), show el τ0 63 p = gr τ0 p from rfl, grd_t (by exact ⟨by omega, by omega⟩), grd_t (by exact ⟨by omega, by omega⟩), grd_t (by omega), td_pos (by omega), hs, grd_t (by exact ⟨by omega, by omega⟩), bnd, grd_t (by exact ⟨by omega, by omega⟩), q6, grd_t (by decide), if_pos rfl, q4.grn h q7 (by omega) (by omega), Option.bind_some, grd_t (by exact ⟨by omega, by omega⟩), grd_t (by exact ⟨by omega, by omega⟩), grd_t (by omega), bnd, td_pos (by omega), g1', q4.t 63 _ (by decide), show el τ0 63 p = gr τ0 p from rfl, grd_t (by exact ⟨by omega, by omega⟩), e36, grd_t (by exact ⟨by omega, by omega⟩), q4.grn h q7 (by omega) (by omega), Option.bind_some, q5]
            simp only
            rw [y1, Option.bind_some, show el τ4 36 k = q by rw [y3 36 (by decide)]; exact e36]
            exact r1
          obtain ⟨-, st⟩ := r_step_k h q4
          rw [sprL, if_pos cc, ← List.append_assoc]
          refine (GO.res h q4 (st (r_spreads N τ3 k p c) (Or.inr (Or.inr (Or.inr (Or.inr (Or.inl ⟨hK, by omega, ⟨by omega, by omega⟩, rfl⟩)))))) rr r2).wk ?_
          rw [Nat.succ_mul]
          omega
      · rw [if_neg cc] at st93 hl
        have w4 := hA.se (a := 36) (by decide) (q + 1)
        obtain ⟨R, r1, r2⟩ := ih f (q + 1) _ _ (by omega) w4 (el_ses _ _ _ _) (by omega) (by omega) (by omega)
        refine ⟨R, by rw [st93]; exact r1, ?_⟩
        rw [sprL, if_neg cc, List.nil_append]
        rcases r2 with r2 | ⟨τ1, κ, τ3, M, x1, x2, x3, x4, x5⟩
        · exact Or.inl r2
        · refine Or.inr ⟨τ1, κ, τ3, M, x1, x2, x3, x4, x5.wk ?_⟩
          rw [Nat.succ_mul]
          omega
theorem rk_8 {τ : St} (h : PR2 N τ0 d k p c (fl τ 84 0)) (tb : TB τ0 τ) (hF : FRM τ k p c) (hK : el τ0 70 p = 8) (hn : NK8 τ0 p) : GO N τ k (fl τ 84 0) (ab (c * gr τ0 p) (rowK τ0 (rowL τ0 d) p c)) τ (1 + (1 + 32 * (sbd d + 2)) + (sbd d + 1)) := by
  obtain ⟨n1, ⟨n2, n2'⟩, ⟨n3, n3'⟩, ⟨n4, n4'⟩, n5, n6, n7, n8, n9⟩ := id hn
  obtain ⟨hHR, hT, hC, k0, k1, e0, e1, hN⟩ := id h
  obtain ⟨⟨g1, g2⟩, -⟩ := hT.2.1
  have pp := hT.pos
  have hA0 := NR.rf (τ0 := τ0) tb hF
  have er : rowK τ0 (rowL τ0 d) p c = [] ++ sprL (rowL τ0 d (kd τ0 p 0) c) (el τ0 69 p) (el τ0 68 p) (el τ0 67 p) (gr τ0 (kd τ0 p 0)) (el τ0 68 p).toNat 0 := by
    unfold rowK
    simp only [hK]
    rfl
  by_cases ha : 1 ≤ el τ0 69 p
  · have hs : gr τ0 p / el τ0 68 p = gr τ0 (kd τ0 p 0) := by rw [n5, Int.mul_ediv_cancel_left _ (by omega)]
    obtain ⟨kt, kr⟩ := h.kn (i := 0) (by omega) (by omega)
    obtain ⟨⟨kg1, kg2⟩, -⟩ := kr
    obtain ⟨R, r1, r2⟩ := rk_spr_lp h hK hn ha (el τ0 68 p).toNat N 0 τ [] (by omega) hA0 hF.2.2.2.2.2.2.2.1 (Int.le_refl _) (by omega) (by rw [sprN_n n3 n2 n2']; simp only [List.length_nil]; omega)
    rw [er]
    obtain ⟨-, st⟩ := r_step_k h hA0
    refine (GO.res h hA0 (st (r_spreads N τ k p c) (Or.inr (Or.inr (Or.inr (Or.inr (Or.inl ⟨hK, by omega, ⟨by omega, by omega⟩, rfl⟩)))))) (R := R) ?_ r2).wk ?_
    · rw [r_spreads, grd_t (by exact ⟨by omega, by omega⟩), tb.1 68 _ (by decide), bnd, tb.1 63 _ (by decide), show el τ0 63 p = gr τ0 p from rfl, grd_t (by exact ⟨by omega, by omega⟩), grd_t (by exact ⟨by omega, by omega⟩), grd_t (by omega), td_pos (by omega), hs, grd_t (by exact ⟨by omega, by omega⟩), bnd, grd_t (by exact ⟨by omega, by omega⟩), hF.2.2.2.1, grd_t (by decide), if_neg (by decide)]
      exact r1
    · have : (el τ0 68 p).toNat * (sbd d + 2) ≤ 32 * (sbd d + 2) := Nat.mul_le_mul_right _ (by omega)
      omega
  · -- no step sounds
    have c0 : cw τ0 p = 0 := n8 (by omega)
    have gd := rowK_good hT (fun q c' hq => row_good d q c' hq) c
    have e : rowK τ0 (rowL τ0 d) p c = [] := List.length_eq_zero_iff.1 (by have := gd.1; omega)
    rw [e]
    refine (GO.done h hA0 (τ1 := τ) ?_ hA0).wk (by omega)
    rw [r_step, grd_t (by exact ⟨by omega, by omega⟩), bnd, bnd, hF.2.1, hF.2.2.1, grd_t (by exact ⟨by omega, by omega⟩), tb.1 70 _ (by decide), hK, grd_t (by decide), tb.1 69 _ (by decide)]
    show grd (i32 (el τ0 69 p)) (if (0 : Int) < el τ0 69 p then _ else _) = _
    rw [grd_t (by exact ⟨by omega, by omega⟩), if_neg (by omega)]
end RQ3
