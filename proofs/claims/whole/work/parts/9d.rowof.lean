/-! rows of the reference: all kinds -/
section RX
variable {N : Nat} {τ0 : St} {d : Nat} {k p c : Int}
theorem rk_leaf {τ : St} (h : PR2 N τ0 d k p c (fl τ 84 0)) (tb : TB τ0 τ) (hF : FRM τ k p c) (hK : (el τ0 70 p = 1 ∧ NK1 τ0 p) ∨ (el τ0 70 p = 2 ∧ NK2 τ0 p) ∨ el τ0 70 p = 3) : GO N τ k (fl τ 84 0) (ab (c * gr τ0 p) (rowK τ0 (rowL τ0 d) p c)) τ 1 := by
  obtain ⟨hHR, hT, hC, k0, k1, e0, e1, hN⟩ := id h
  obtain ⟨-, ⟨cp1, cp2⟩, -, ⟨wp1, wp2⟩, -⟩ := hT.2.1
  have pp := hT.pos
  have ph := phi_lo (show 0 ≤ wk τ0 p by omega)
  have hA := NR.rf (τ0 := τ0) tb hF
  have hd : ∀ R, (if el τ0 70 p = 1 then Option.bind (r_emit N τ c (c + 1) (el τ0 69 p) (el τ0 68 p) 0 1) (fun r9 => r_step_292 N r9) else if el τ0 70 p = 2 then Option.bind (r_emit N τ c (c + 1) 0 0 (el τ0 69 p) 2) (fun r12 => r_step_292 N r12) else r_step_292 N τ) = R → r_step N τ k = R := by
    intro R hR
    rw [r_step, grd_t (by exact ⟨by omega, by omega⟩), bnd, bnd, hF.2.1, hF.2.2.1, grd_t (by exact ⟨by omega, by omega⟩), tb.1 70 _ (by decide), grd_t (by exact ⟨by omega, by omega⟩), tb.1 69 _ (by decide), tb.1 68 _ (by decide), ← hR]
    rcases hK with ⟨hK, -⟩ | ⟨hK, -⟩ | hK <;> rw [hK] <;> rfl
  rcases hK with ⟨hK, n1, n2, n3⟩ | ⟨hK, n1, n2, n3⟩ | hK
  · have er : rowK τ0 (rowL τ0 d) p c = [(0, 1, el τ0 69 p, el τ0 68 p, 0, 1)] := by unfold rowK; simp only [hK]; rfl
    obtain ⟨τ1, q1, q2, q3, q4, q5⟩ := r_emit' (N := N) (τ := τ) (b := c) (e := c + 1) (x5 := el τ0 69 p) (x6 := el τ0 68 p) (x7 := 0) (x8 := 1) e0 (by omega)
    rw [er, n1, Int.mul_one]
    refine GO.done h hA (τ1 := τ1) (hd _ (by rw [if_pos hK, q1, Option.bind_some])) ?_
    have e : ab c [((0 : Int), (1 : Int), el τ0 69 p, el τ0 68 p, (0 : Int), (1 : Int))] = [(c, c + 1, el τ0 69 p, el τ0 68 p, 0, 1)] := by
      show [((0 : Int) + c, (0 : Int) + 1 + c, _)] = _
      rw [show (0 : Int) + c = c by omega, show (0 : Int) + 1 + c = c + 1 by omega]
    rw [e]
    have := NR.ev (A := []) (L := []) (M := [(c, c + 1, el τ0 69 p, el τ0 68 p, 0, 1)]) (τ' := τ1) hA (by simp only [List.length_nil]; rw [show fl τ 84 0 + ((0 : Nat) : Int) = fl τ 84 0 by omega]; exact q2) (by simp only [List.length_nil, List.length_cons]; omega) ⟨by simp only [List.length_nil]; rw [show fl τ 84 0 + ((0 : Nat) : Int) = fl τ 84 0 by omega]; exact q4, trivial⟩
    exact this
  · have er : rowK τ0 (rowL τ0 d) p c = [(0, 1, 0, 0, el τ0 69 p, 2)] := by unfold rowK; simp only [hK]; rfl
    obtain ⟨τ1, q1, q2, q3, q4, q5⟩ := r_emit' (N := N) (τ := τ) (b := c) (e := c + 1) (x5 := 0) (x6 := 0) (x7 := el τ0 69 p) (x8 := 2) e0 (by omega)
    rw [er, n1, Int.mul_one]
    refine GO.done h hA (τ1 := τ1) (hd _ (by rw [if_neg (by omega), if_pos hK, q1, Option.bind_some])) ?_
    have e : ab c [((0 : Int), (1 : Int), (0 : Int), (0 : Int), el τ0 69 p, (2 : Int))] = [(c, c + 1, 0, 0, el τ0 69 p, 2)] := by
      show [((0 : Int) + c, (0 : Int) + 1 + c, _)] = _
      rw [show (0 : Int) + c = c by omega, show (0 : Int) + 1 + c = c + 1 by omega]
    rw [e]
    have := NR.ev (A := []) (L := []) (M := [(c, c + 1, 0, 0, el τ0 69 p, 2)]) (τ' := τ1) hA (by simp only [List.length_nil]; rw [show fl τ 84 0 + ((0 : Nat) : Int) = fl τ 84 0 by omega]; exact q2) (by simp only [List.length_nil, List.length_cons]; omega) ⟨by simp only [List.length_nil]; rw [show fl τ 84 0 + ((0 : Nat) : Int) = fl τ 84 0 by omega]; exact q4, trivial⟩
    exact this
  · have er : rowK τ0 (rowL τ0 d) p c = [] := by unfold rowK; simp only [hK]; rfl
    rw [er]
    exact GO.done h hA (τ1 := τ) (hd _ (by rw [if_neg (by omega), if_neg (by omega)])) hA
theorem r_rows_all (hN : 300000 ≤ N) : ∀ d, HR N τ0 d
  | 0 => fun τ k p c _ hT _ _ _ _ _ _ => hT.elim
  | d + 1 => by
    intro τ k p c tb hT hC hF k0 k1 e0 e1
    have h : PR2 N τ0 d k p c (fl τ 84 0) := ⟨r_rows_all hN d, hT, hC, k0, by omega, e0, e1, hN⟩
    have key : GO N τ k (fl τ 84 0) (ab (c * gr τ0 p) (rowK τ0 (rowL τ0 d) p c)) τ (sbd (d + 1)) := by
      have sb : sbd (d + 1) = 2 + 1000000000 * (sbd d + 2) := rfl
      have nk := hT.2.2.2.2
      unfold NK at nk
      rcases nk with ⟨a, b⟩ | ⟨a, b⟩ | a | ⟨a, b⟩ | ⟨a, b⟩ | ⟨a, b⟩ | ⟨a, b⟩ | ⟨a, b⟩ | ⟨a, b⟩ | ⟨a, b⟩ | ⟨a, b⟩ | ⟨a, b⟩ | ⟨a, b⟩ | ⟨a, b, b1, b2⟩ | ⟨a, b, b1, b2⟩ | ⟨a, b, b1, b2, b3, b4⟩ | ⟨a, b⟩ | ⟨a, b⟩ | ⟨a, b⟩ | ⟨a, b⟩ | ⟨a, b, -⟩ | ⟨a, b, -⟩ | ⟨a, b⟩ | ⟨a, b⟩ | ⟨a, b, b1⟩
      · exact (rk_leaf h tb hF (Or.inl ⟨a, b⟩)).wk (by omega)
      · exact (rk_leaf h tb hF (Or.inr (Or.inl ⟨a, b⟩))).wk (by omega)
      · exact (rk_leaf h tb hF (Or.inr (Or.inr a))).wk (by omega)
      · exact (rk_4 h tb hF a b).wk (by omega)
      · exact (rk_5 h tb hF a b).wk (by omega)
      · exact (rk_turn h tb hF a b).wk (by omega)
      · exact (rk_7 h tb hF a b).wk (by omega)
      · exact (rk_8 h tb hF a b).wk (by omega)
      · exact (rk_9 h tb hF a b).wk (by omega)
      · exact (rk_10 h tb hF a b).wk (by omega)
      · exact (rk_11 h tb hF a b).wk (by omega)
      · exact (rk_12 h tb hF a b).wk (by omega)
      · exact (rk_13 h tb hF a b).wk (by omega)
      · exact (rk_14 h tb hF a b ⟨b1, b2⟩).wk (by omega)
      · exact (rk_15 h tb hF a b ⟨b1, b2⟩).wk (by omega)
      · exact (rk_16 h tb hF a b b1 b2 b3 b4).wk (by omega)
      · exact (rk_17 h tb hF a b).wk (by omega)
      · exact (rk_18 h tb hF a b).wk (by omega)
      · exact (rk_19 h tb hF a b).wk (by omega)
      · exact (rk_20 h tb hF a b).wk (by omega)
      · exact (rk_draw h tb hF (Or.inl a) b).wk (by omega)
      · exact (rk_draw h tb hF (Or.inr a) b).wk (by omega)
      · exact (rk_snd h tb hF (Or.inl ⟨rfl, rfl⟩) b (Or.inl ⟨a, rfl⟩)).wk (by omega)
      · exact (rk_snd h tb hF (Or.inr ⟨rfl, rfl⟩) b (Or.inr (Or.inl ⟨a, rfl⟩))).wk (by omega)
      · exact (rk_snd h tb hF (Or.inl ⟨rfl, rfl⟩) b (Or.inr (Or.inr ⟨a, rfl, b1⟩))).wk (by omega)
    obtain ⟨κ, τ', q1, q2, q3, q4, q5, q6⟩ := key
    rw [ab_len] at q5
    exact ⟨κ, τ', q1, q2, q3, q4, q5, q6⟩
/-- a row of the reference, from nothing -/
theorem r_rowOf' {τ : St} {d : Nat} {p c : Int} (hN : sbd d + 300000 ≤ N) (hd : d ≤ 69) (hT : TN τ d p) (hC : CB τ d p c) : ∃ τ', r_rowOf N τ p c = some τ' ∧ (∀ f i, f ≠ 84 → f ≠ 96 → fl τ' f i = fl τ f i) ∧ (∀ a j, a < 29 ∨ 52 < a → el τ' a j = el τ a j) ∧ fl τ' 84 0 = (rowL τ d p c).length ∧ At (RE τ') 0 (ab (c * gr τ p) (rowL τ d p c)) := by
  obtain ⟨-, ⟨cp1, cp2⟩, -, ⟨wp1, wp2⟩, -⟩ := hT.rng
  have ph := phi_lo (show 0 ≤ wk τ p by omega)
  have f96 : fl (sf (sf τ 84 0 0) 96 0 0) 96 0 = 0 := fl_sfs _ _ _ _
  have f84 : fl (sf (sf τ 84 0 0) 96 0 0) 84 0 = 0 := by rw [fl_sfn _ _ _ _ (by decide)]; exact fl_sfs _ _ _ _
  obtain ⟨τ1, p1, p2, p3, p4, p5⟩ := r_call' (N := N) (τ := sf (sf τ 84 0 0) 96 0 0) (q := p) (c' := c) (by omega) (by omega)
  rw [f96] at p2 p5
  rw [f84] at p3
  have t1 : TB τ τ1 := ⟨fun a j ha => by rw [p5 a j (by omega)]; rfl, by rw [p4 95 0 (by decide), fl_sfn _ _ _ _ (by decide), fl_sfn _ _ _ _ (by decide)]⟩
  obtain ⟨κ, τ2, q1, q2, q3, q4, q5, q6⟩ := r_rows_all (N := N) (τ0 := τ) (by omega) d τ1 0 p c t1 hT hC p2 (by omega) (by omega) (by omega) (by omega)
  rw [p3] at q3 q5 q6
  refine ⟨τ2, ?_, fun f i a b => ?_, fun a j ha => ?_, by omega, q6⟩
  · rw [r_rowOf, bnd, p1, Option.bind_some]
    obtain ⟨n, hn⟩ : ∃ n, N = (n + 1) + κ := ⟨N - κ - 1, by omega⟩
    have := q2 (n + 1)
    rw [← hn] at this
    rw [this, r_rowOf_16, q4, grd_t (by decide), if_neg (by decide)]
  · rw [q3.1 f i a b, p4 f i b, fl_sfn _ _ _ _ b, fl_sfn _ _ _ _ a]
  · rw [q3.2.1 a j ha, p5 a j (by omega)]
    rfl
end RX
