/-! rows of the reference: nodes of which one kid's row is taken -/
section RS
variable {N : Nat} {τ0 : St} {d : Nat} {k p c : Int}
/-- numbers of a node and of its kids -/
theorem PR2.kn {e : Int} (h : PR2 N τ0 d k p c e) {i : Int} (h0 : 0 ≤ i) (h1 : i < el τ0 64 p) : TN τ0 d (kd τ0 p i) ∧ rng τ0 (kd τ0 p i) := ⟨h.2.1.2.2.2.1 i h0 h1, (h.2.1.2.2.2.1 i h0 h1).rng⟩
/-- a first kid, called on the fresh frame -/
theorem first_kid {τ : St} (h : PR2 N τ0 d k p c (fl τ 84 0)) (tb : TB τ0 τ) (hF : FRM τ k p c) {i c' : Int} (i0 : 0 ≤ i) (i1 : i < el τ0 64 p) (hc : CB τ0 d (kd τ0 p i) c') (hw : cw τ0 (kd τ0 p i) ≤ cw τ0 p) (hk : wk τ0 (kd τ0 p i) ≤ wk τ0 p) {τa : St} (hA : NR τ0 τ k p c (fl τ 84 0) [] τa) : ∃ τ1 κ τ2, r_callKid N τa k i c' = some τ1 ∧ κ ≤ sbd d ∧ Rnd N κ τ1 τ2 ∧ NR τ0 τ k p c (fl τ 84 0) (ab (c' * gr τ0 (kd τ0 p i)) (rowL τ0 d (kd τ0 p i) c')) τ2 ∧ el τ2 38 k = fl τ 84 0 ∧ el τ2 40 k = 1 ∧ el τ2 37 k = i ∧ el τ2 36 k = el τa 36 k ∧ el τ2 35 k = el τa 35 k ∧ el τ2 34 k = el τa 34 k ∧ el τ2 33 k = el τa 33 k := by
  obtain ⟨-, hT, -, -, -, e0, e1, -⟩ := id h
  have pm := phi_mono hk hT.2.1.2.2.2.1.2
  obtain ⟨τ1, κ, τ2, q1, q2, q3, q4, q5, q6⟩ := hA.kid h i0 i1 hc (by simp only [List.length_nil]; omega)
  rw [List.nil_append] at q4
  simp only [List.length_nil] at q5
  exact ⟨τ1, κ, τ2, q1, q2, q3, q4, by rw [q5]; omega, q6⟩
theorem NR.mv0 {τs τ : St} {e : Int} {L : List Evt} (h : PR2 N τ0 d k p c e) (hA : NR τ0 τs k p c e L τ) (hl : e + L.length ≤ 29999) (f b : Int) : ∃ τ', r_move N τ e f b = some τ' ∧ NR τ0 τs k p c e (mvA f b L) τ' ∧ ∀ a, a < 43 → el τ' a k = el τ a k := by
  have := NR.mvd (A := []) (L := L) h (by rw [List.nil_append]; exact hA) (by simp only [List.length_nil]; omega) f b
  simp only [List.length_nil, List.nil_append] at this
  rw [show e + ((0 : Nat) : Int) = e by omega] at this
  exact this
theorem rk_turn {τ : St} (h : PR2 N τ0 d k p c (fl τ 84 0)) (tb : TB τ0 τ) (hF : FRM τ k p c) (hK : el τ0 70 p = 6) (hn : NK6 τ0 p) : GO N τ k (fl τ 84 0) (ab (c * gr τ0 p) (rowK τ0 (rowL τ0 d) p c)) τ (1 + (sbd d + 1)) := by
  obtain ⟨n0, n1, n2⟩ := hn
  obtain ⟨hHR, hT, hC, k0, k1, e0, e1, hN⟩ := id h
  obtain ⟨⟨g1, g2⟩, ⟨cp1, cp2⟩, -, ⟨wp1, wp2⟩, -⟩ := hT.2.1
  have pp := hT.pos
  have cb := hC.abs hT.2.1
  have hp : ∀ x ∈ kl τ0 p, 1 ≤ x.2.1 ∧ 1 ≤ x.2.2 := fun x hx => ⟨(n2 x hx).1.1, (n2 x hx).2.1.1⟩
  have hwb := kw_b (τ0 := τ0) (p := p) (fun x hx => ⟨(n2 x hx).1, (n2 x hx).2.1⟩)
  obtain ⟨w0, w1⟩ := wS_pos hp
  have kne : 0 < (kl τ0 p).length := by show 0 < (kidF _ _ _).length; rw [kidF_len]; omega
  have wp : 1 ≤ wS (kl τ0 p) := by
    have k1 := hp _ (List.getElem_mem kne)
    have k2 := w1 _ (List.getElem_mem kne)
    omega
  have m0 := Int.emod_nonneg c (show wS (kl τ0 p) ≠ 0 by omega)
  have m1 := Int.emod_lt_of_pos c (show 0 < wS (kl τ0 p) by omega)
  have hA := NR.rf (τ0 := τ0) tb hF
  have hA2 := hA.se (a := 34) (by decide) (c / wS (kl τ0 p))
  obtain ⟨i, i0, i1, i2, i3⟩ := r_kidAt' (N := N) hT hA2.1 hN ⟨m0, m1⟩ n1 hwb hp
  obtain ⟨kk, hkk, ek⟩ : ∃ x ∈ kl τ0 p, x.1 = kd τ0 p i := by
    obtain ⟨k', hk', e⟩ := katL_mem (c % wS (kl τ0 p)) (show kl τ0 p ≠ [] from fun e => by rw [e] at kne; simp at kne)
    exact ⟨k', hk', by rw [← e, i3]⟩
  obtain ⟨-, -, k3, k4⟩ := n2 kk hkk
  rw [ek] at k3 k4
  obtain ⟨kt, kr⟩ := h.kn i0 i1
  obtain ⟨⟨kg1, kg2⟩, -, -, ⟨kw1, kw2⟩, -⟩ := kr
  have db : -(if 0 ≤ c then c else -c) ≤ c / wS (kl τ0 p) ∧ c / wS (kl τ0 p) ≤ (if 0 ≤ c then c else -c) := by
    split
    · have := Int.ediv_nonneg (show 0 ≤ c by assumption) w0
      have := Int.ediv_le_self (wS (kl τ0 p)) (show 0 ≤ c by assumption)
      omega
    · have h1 : c ≤ c / wS (kl τ0 p) := by
        rw [Int.le_ediv_iff_mul_le (by omega)]
        have := Int.mul_le_mul_of_nonpos_left (a := c) (by omega) wp
        omega
      have h2 : c / wS (kl τ0 p) ≤ 0 := by
        have := Int.ediv_neg_of_neg_of_pos (show c < 0 by omega) (show 0 < wS (kl τ0 p) by omega)
        omega
      omega
  have kc : CB τ0 d (kd τ0 p i) (c / wS (kl τ0 p)) := hC.kid (m := 1) (by omega) kw1 (by have := k4.2.2; omega) (fun X x0 x1 x2 => by
    split at db <;> omega)
  obtain ⟨τ1, κ, τ2, q1, q2, q3, q4, q5, q6, q7, q8, q9, q10, q11⟩ := first_kid h tb hF i0 i1 kc k4.1 k4.2.2 hA2
  have s1 : r_step N τ k = some τ1 := by
    obtain ⟨-, st⟩ := r_step_k h hA
    rw [st (r_turn N τ k p c) (Or.inr (Or.inr (Or.inl ⟨hK, rfl⟩))), r_turn, grd_t (by exact ⟨by omega, by omega⟩), hF.2.2.2.1, grd_t (by decide), if_pos rfl, r_weights' hT tb hN hwb, Option.bind_some, r_div' ⟨by omega, by omega⟩ ⟨by omega, by omega⟩ (by omega), Option.bind_some, r_mod' ⟨by omega, by omega⟩ ⟨by omega, by omega⟩ (by omega), Option.bind_some, bnd, i2, Option.bind_some, el_ses, q1, Option.bind_some, fin1]
  refine GO.call h hA s1 q3 q2 ?_
  -- back from the kid
  have gl := (row_good d (kd τ0 p i) (c / wS (kl τ0 p)) kt).1
  have k41 := k4.1
  have ph := phi_lo (show 0 ≤ wk τ0 p by omega)
  have dp := dv_pos k3 kg1 g1
  have dm := dv_mul k3
  obtain ⟨τ3, y1, y2, y3⟩ := q4.mv0 h (by rw [ab_len]; omega) (gr τ0 p / gr τ0 (kd τ0 p i)) ((c - c / wS (kl τ0 p)) * gr τ0 p)
  refine GO.done h q4 (τ1 := τ3) ?_ ?_
  · obtain ⟨-, st⟩ := r_step_k h q4
    have e34 : el τ2 34 k = c / wS (kl τ0 p) := by rw [q10]; exact el_ses _ _ _ _
    rw [st (r_turn N τ2 k p c) (Or.inr (Or.inr (Or.inl ⟨hK, rfl⟩))), r_turn, grd_t (by exact ⟨by omega, by omega⟩), q6, grd_t (by decide), if_neg (by decide), grd_t (by exact ⟨by omega, by omega⟩), q4.t 63 _ (by decide), show el τ0 63 p = gr τ0 p from rfl, grd_t (by exact ⟨by omega, by omega⟩), q4.grn h q7 i0 i1, Option.bind_some, grd_t (by exact ⟨by omega, by omega⟩), grd_t (by exact ⟨by omega, by omega⟩), grd_t (by omega), bnd, td_pos (by omega), q4.t 63 _ (by decide), show el τ0 63 p = gr τ0 p from rfl, grd_t (by exact ⟨by omega, by omega⟩), q5, e34, y1, Option.bind_some, fin0]
  · have er : rowK τ0 (rowL τ0 d) p c = mv (gr τ0 p / gr τ0 (kd τ0 p i)) 0 (rowL τ0 d (kd τ0 p i) (c / wS (kl τ0 p))) := by
      unfold rowK
      simp only [hK]
      rw [i3]
      rfl
    rw [er]
    rw [ab_mv (b' := 0) (o' := c * gr τ0 p)] at y2
    · exact y2
    · rw [Int.mul_assoc, Int.mul_comm (gr τ0 (kd τ0 p i)), dm, Int.sub_mul]; omega
/-- the start of the single ones -/
theorem single_first {τ : St} (h : PR2 N τ0 d k p c (fl τ 84 0)) (tb : TB τ0 τ) (hF : FRM τ k p c) {i : Int} (h01 : i = 0 ∨ i = 1) (hi : i < el τ0 64 p) (hw : cw τ0 (kd τ0 p i) ≤ cw τ0 p) (hk : wk τ0 (kd τ0 p i) ≤ wk τ0 p) (hK : el τ0 70 p = 12 ∨ el τ0 70 p = 13 ∨ el τ0 70 p = 14 ∨ el τ0 70 p = 19 ∨ el τ0 70 p = 20 ∨ el τ0 70 p = 21 ∨ el τ0 70 p = 22) (hsel : r_single N τ k p c = r_single_82 N τ k c i) : ∃ τ1 κ τ2, r_step N τ k = some τ1 ∧ κ ≤ sbd d ∧ Rnd N κ τ1 τ2 ∧ NR τ0 τ k p c (fl τ 84 0) (ab (c * gr τ0 (kd τ0 p i)) (rowL τ0 d (kd τ0 p i) c)) τ2 ∧ el τ2 38 k = fl τ 84 0 ∧ el τ2 40 k = 1 ∧ el τ2 37 k = i := by
  obtain ⟨hHR, hT, hC, k0, k1, e0, e1, hN⟩ := id h
  have hA := NR.rf (τ0 := τ0) tb hF
  obtain ⟨kt, kr⟩ := h.kn (i := i) (by omega) hi
  have kc : CB τ0 d (kd τ0 p i) c := hC.same kr.2.2.2.1.1 hk (by omega) (by omega)
  obtain ⟨τ1, κ, τ2, q1, q2, q3, q4, q5, q6, q7, -⟩ := first_kid h tb hF (by omega) hi kc hw hk hA
  refine ⟨τ1, κ, τ2, ?_, q2, q3, q4, q5, q6, q7⟩
  obtain ⟨-, st⟩ := r_step_k h hA
  rw [st (r_single N τ k p c) (Or.inr (Or.inr (Or.inr (Or.inr (Or.inr (Or.inr (Or.inl ⟨hK, rfl⟩))))))), hsel]
  rcases h01 with rfl | rfl
  · rw [r_single_82, grd_t (by decide), if_pos rfl, r_single_96, q1, Option.bind_some, fin1]
  · rw [r_single_82, grd_t (by decide), if_neg (by decide), r_single_96, q1, Option.bind_some, fin1]
theorem r_single_0 {τ : St} (h : PR2 N τ0 d k p c (fl τ 84 0)) (tb : TB τ0 τ) (hF : FRM τ k p c) (hK : ¬ el τ0 70 p = 13 ∧ ¬ el τ0 70 p = 14) : r_single N τ k p c = r_single_82 N τ k c 0 := by
  obtain ⟨hHR, hT, hC, k0, k1, e0, e1, hN⟩ := id h
  have pp := hT.pos
  have kb : 1 ≤ el τ0 70 p ∧ el τ0 70 p ≤ 25 := by
    have := hT.2.2.2.2
    unfold NK at this
    omega
  rw [r_single, grd_t (by exact ⟨by omega, by omega⟩), hF.2.2.2.1, grd_t (by decide), if_pos rfl, grd_t (by exact ⟨by omega, by omega⟩), tb.1 70 _ (by decide), grd_t (by exact ⟨by omega, by omega⟩), if_neg hK.1, if_neg hK.2, r_single_81]
theorem rk_either {τ : St} (h : PR2 N τ0 d k p c (fl τ 84 0)) (tb : TB τ0 τ) (hF : FRM τ k p c) {i : Int} (h01 : i = 0 ∨ i = 1) (hm : el τ0 64 p = 2) (hd : gr τ0 (kd τ0 p i) ∣ gr τ0 p) (hs : sub τ0 p (kd τ0 p i)) (hK : el τ0 70 p = 13 ∨ el τ0 70 p = 14) (hsel : r_single N τ k p c = r_single_82 N τ k c i) : GO N τ k (fl τ 84 0) (ab (c * gr τ0 p) (mv (gr τ0 p / gr τ0 (kd τ0 p i)) 0 (rowL τ0 d (kd τ0 p i) c))) τ (1 + (sbd d + 1)) := by
  obtain ⟨hHR, hT, hC, k0, k1, e0, e1, hN⟩ := id h
  obtain ⟨⟨g1, g2⟩, ⟨cp1, cp2⟩, -, ⟨wp1, wp2⟩, -⟩ := hT.2.1
  have pp := hT.pos
  obtain ⟨τ1, κ, τ2, q1, q2, q3, q4, q5, q6, q7⟩ := single_first h tb hF h01 (by omega) hs.1 hs.2.2 (by omega) hsel
  refine GO.call h (NR.rf (τ0 := τ0) tb hF) q1 q3 q2 ?_
  obtain ⟨kt, kr⟩ := h.kn (i := i) (by omega) (by omega)
  obtain ⟨⟨kg1, kg2⟩, -⟩ := kr
  have gl := (row_good d (kd τ0 p i) c kt).1
  have hs1 := hs.1
  have ph := phi_lo (show 0 ≤ wk τ0 p by omega)
  have dp := dv_pos hd kg1 g1
  have dm := dv_mul hd
  obtain ⟨τ3, y1, y2, y3⟩ := q4.mv0 h (by rw [ab_len]; omega) (gr τ0 p / gr τ0 (kd τ0 p i)) 0
  refine GO.done h q4 (τ1 := τ3) ?_ ?_
  · obtain ⟨-, st⟩ := r_step_k h q4
    rw [st (r_single N τ2 k p c) (Or.inr (Or.inr (Or.inr (Or.inr (Or.inr (Or.inr (Or.inl ⟨by omega, rfl⟩)))))))]
    have : r_single N τ2 k p c = some (τ3, 0) := by
      rw [r_single, grd_t (by exact ⟨by omega, by omega⟩), q6, grd_t (by decide), if_neg (by decide), grd_t (by exact ⟨by omega, by omega⟩), q4.t 63 _ (by decide), show el τ0 63 p = gr τ0 p from rfl, grd_t (by exact ⟨by omega, by omega⟩), bnd, q4.t 70 _ (by decide), grd_t (by exact ⟨by omega, by omega⟩)]
      have tail : Option.bind (r_grainOf N τ2 k) (fun r13 => grd (i64 (gr τ0 p)) (grd (i64 r13.2) (grd (¬ r13.2 = 0) (Option.bind (r_move N r13.1 (el τ2 38 k) (Int.tdiv (gr τ0 p) r13.2) 0) (fun r18 => some (r18, (0 : Int))))))) = some (τ3, 0) := by
        rw [q4.grn h q7 (by omega) (by omega), Option.bind_some, grd_t (by exact ⟨by omega, by omega⟩), grd_t (by exact ⟨by omega, by omega⟩), grd_t (by omega), td_pos (by omega), q5, y1, Option.bind_some]
      rcases hK with hK | hK <;> rw [hK] <;> exact tail
    rw [this, fin0]
  · rw [ab_mv (b' := 0) (o' := c * gr τ0 p)] at y2
    · exact y2
    · rw [Int.mul_assoc, Int.mul_comm (gr τ0 (kd τ0 p i)), dm]
theorem rk_13 {τ : St} (h : PR2 N τ0 d k p c (fl τ 84 0)) (tb : TB τ0 τ) (hF : FRM τ k p c) (hK : el τ0 70 p = 13) (hn : NK13 τ0 p) : GO N τ k (fl τ 84 0) (ab (c * gr τ0 p) (rowK τ0 (rowL τ0 d) p c)) τ (1 + (sbd d + 1)) := by
  obtain ⟨m1, m2, m3, m4, m5, m6⟩ := hn
  obtain ⟨hHR, hT, hC, k0, k1, e0, e1, hN⟩ := id h
  have pp := hT.pos
  have cb := hC.abs hT.2.1
  have x0 := Int.emod_nonneg c (show el τ0 69 p ≠ 0 by omega)
  have x1 := Int.emod_lt_of_pos c (show 0 < el τ0 69 p by omega)
  have hd : r_single N τ k p c = if c % el τ0 69 p = 0 then r_single_82 N τ k c 1 else r_single_82 N τ k c 0 := by
    rw [r_single, grd_t (by exact ⟨by omega, by omega⟩), hF.2.2.2.1, grd_t (by decide), if_pos rfl, grd_t (by exact ⟨by omega, by omega⟩), tb.1 70 _ (by decide), hK, grd_t (by decide), if_pos rfl, tb.1 69 _ (by decide), grd_t (by exact ⟨by omega, by omega⟩), r_mod' ⟨by omega, by omega⟩ ⟨by omega, by omega⟩ (by omega), Option.bind_some, grd_t (by exact ⟨by omega, by omega⟩)]
  by_cases c1 : c % el τ0 69 p = 0
  · have er : rowK τ0 (rowL τ0 d) p c = mv (gr τ0 p / gr τ0 (kd τ0 p 1)) 0 (rowL τ0 d (kd τ0 p 1) c) := by unfold rowK; simp only [hK, if_pos c1]; rfl
    rw [if_pos c1] at hd
    rw [er]
    exact rk_either h tb hF (Or.inr rfl) m1 m4 m6 (Or.inl hK) hd
  · have er : rowK τ0 (rowL τ0 d) p c = mv (gr τ0 p / gr τ0 (kd τ0 p 0)) 0 (rowL τ0 d (kd τ0 p 0) c) := by unfold rowK; simp only [hK, if_neg c1]; rfl
    rw [if_neg c1] at hd
    rw [er]
    exact rk_either h tb hF (Or.inl rfl) m1 m3 m5 (Or.inl hK) hd
theorem rk_14 {τ : St} (h : PR2 N τ0 d k p c (fl τ 84 0)) (tb : TB τ0 τ) (hF : FRM τ k p c) (hK : el τ0 70 p = 14) (hn : NK13 τ0 p) (hb : 0 ≤ el τ0 68 p ∧ el τ0 68 p ≤ 1000) : GO N τ k (fl τ 84 0) (ab (c * gr τ0 p) (rowK τ0 (rowL τ0 d) p c)) τ (1 + (sbd d + 1)) := by
  obtain ⟨m1, m2, m3, m4, m5, m6⟩ := hn
  obtain ⟨hHR, hT, hC, k0, k1, e0, e1, hN⟩ := id h
  have pp := hT.pos
  have cb := hC.abs hT.2.1
  have x0 := Int.emod_nonneg c (show el τ0 69 p ≠ 0 by omega)
  have x1 := Int.emod_lt_of_pos c (show 0 < el τ0 69 p by omega)
  have hd : r_single N τ k p c = if c % el τ0 69 p < el τ0 68 p then r_single_82 N τ k c 0 else r_single_82 N τ k c 1 := by
    rw [r_single, grd_t (by exact ⟨by omega, by omega⟩), hF.2.2.2.1, grd_t (by decide), if_pos rfl, grd_t (by exact ⟨by omega, by omega⟩), tb.1 70 _ (by decide), hK, grd_t (by decide), if_neg (by decide), if_pos rfl, tb.1 69 _ (by decide), grd_t (by exact ⟨by omega, by omega⟩), r_mod' ⟨by omega, by omega⟩ ⟨by omega, by omega⟩ (by omega), Option.bind_some, tb.1 68 _ (by decide), grd_t (by exact ⟨by omega, by omega⟩), grd_t (by exact ⟨by omega, by omega⟩), grd_t (by exact ⟨by omega, by omega⟩)]
    rfl
  by_cases c1 : c % el τ0 69 p < el τ0 68 p
  · have er : rowK τ0 (rowL τ0 d) p c = mv (gr τ0 p / gr τ0 (kd τ0 p 0)) 0 (rowL τ0 d (kd τ0 p 0) c) := by unfold rowK; simp only [hK, if_pos c1]; rfl
    rw [if_pos c1] at hd
    rw [er]
    exact rk_either h tb hF (Or.inl rfl) m1 m3 m5 (Or.inr hK) hd
  · have er : rowK τ0 (rowL τ0 d) p c = mv (gr τ0 p / gr τ0 (kd τ0 p 1)) 0 (rowL τ0 d (kd τ0 p 1) c) := by unfold rowK; simp only [hK, if_neg c1]; rfl
    rw [if_neg c1] at hd
    rw [er]
    exact rk_either h tb hF (Or.inr rfl) m1 m4 m6 (Or.inr hK) hd
/-- gcd of ints -/
theorem rcom_lp : ∀ (b : Nat) (x y : Int) (n : Nat), 0 ≤ x → x < 1000000000 → 0 ≤ y → y < 2 ^ b → y < 1000000000 → 2 * b + 1 ≤ n → r_common_4 N n x y = some (gC x y) := by
  intro b
  induction b with
  | zero =>
    intro x y n x0 x1 y0 y1 y2 hn
    have : y = 0 := by simp at y1; omega
    subst this
    cases n with
    | zero => omega
    | succ n => rw [r_common_4, grd_t (by decide), if_pos rfl, gC_0 x0]
  | succ b ih =>
    intro x y n x0 x1 y0 y1 y2 hn
    cases n with
    | zero => omega
    | succ n =>
      by_cases c0 : y = 0
      · subst c0
        rw [r_common_4, grd_t (by decide), if_pos rfl, gC_0 x0]
      · have m0 := Int.emod_nonneg x c0
        have m1 := Int.emod_lt_of_pos x (show 0 < y by omega)
        rw [r_common_4, grd_t (by exact ⟨by omega, by omega⟩), if_neg c0, grd_t (by exact ⟨by omega, by omega⟩), grd_t c0, bnd, tm_pos x0]
        cases n with
        | zero => omega
        | succ n =>
          by_cases c1 : x % y = 0
          · rw [c1, r_common_4, grd_t (by decide), if_pos rfl, ← gC_step x0 (by omega), c1, gC_0 y0]
          · have k0 := Int.emod_nonneg y c1
            have k1 := Int.emod_lt_of_pos y (show 0 < x % y by omega)
            have p2 : (2 : Int) ^ (b + 1) = 2 * 2 ^ b := by rw [Int.pow_succ]; omega
            have k2 : y % (x % y) < 2 ^ b := by
              have d1 := Int.emod_add_mul_ediv y (x % y)
              have q1 : 1 ≤ y / (x % y) := by
                rw [Int.le_ediv_iff_mul_le (by omega)]
                omega
              have q2 := Int.mul_le_mul_of_nonneg_left q1 (show 0 ≤ x % y by omega)
              omega
            rw [r_common_4, grd_t (by exact ⟨by omega, by omega⟩), if_neg c1, grd_t (by exact ⟨by omega, by omega⟩), grd_t c1, bnd, tm_pos y0, ih (x % y) (y % (x % y)) n m0 (by omega) k0 k2 (by omega) (by omega), gC_step y0 (by omega), gC_step x0 (by omega)]
theorem r_common' (hN : 300000 ≤ N) {x y : Int} (x0 : 0 ≤ x) (x1 : x < 1000000000) (y0 : 0 ≤ y) (y1 : y < 1000000000) : r_common N x y = some (gC x y) := rcom_lp 30 x y N x0 x1 y0 (by omega) y1 (by omega)
theorem rk_20 {τ : St} (h : PR2 N τ0 d k p c (fl τ 84 0)) (tb : TB τ0 τ) (hF : FRM τ k p c) (hK : el τ0 70 p = 20) (hn : NK20 τ0 p) : GO N τ k (fl τ 84 0) (ab (c * gr τ0 p) (rowK τ0 (rowL τ0 d) p c)) τ (1 + (sbd d + 1)) := by
  obtain ⟨n1, n2, n3, n4, n5, n6, n7, n8, n9⟩ := hn
  obtain ⟨hHR, hT, hC, k0, k1, e0, e1, hN⟩ := id h
  obtain ⟨⟨g1, g2⟩, ⟨cp1, cp2⟩, -, ⟨wp1, wp2⟩, -⟩ := hT.2.1
  have pp := hT.pos
  obtain ⟨τ1, κ, τ2, q1, q2, q3, q4, q5, q6, q7⟩ := single_first h tb hF (i := 0) (Or.inl rfl) (by omega) n9.1 n9.2.2 (by omega) (r_single_0 h tb hF ⟨by omega, by omega⟩)
  refine GO.call h (NR.rf (τ0 := τ0) tb hF) q1 q3 q2 ?_
  obtain ⟨kt, kr⟩ := h.kn (i := 0) (by omega) (by omega)
  obtain ⟨⟨kg1, kg2⟩, -⟩ := kr
  have gl := (row_good d (kd τ0 p 0) c kt).1
  have hs1 := n9.1
  have ph := phi_lo (show 0 ≤ wk τ0 p by omega)
  have D0 : 0 < spD τ0 p := Int.mul_pos (by omega) (by omega)
  have D2 : spD τ0 p ≤ 64 * 64 := Int.mul_le_mul n3.2 n5.2 (by omega) (by omega)
  have U2 : spU τ0 p ≤ 64 * 64 := by
    have u1 : el τ0 67 p * el τ0 68 p ≤ 64 * 64 := Int.mul_le_mul (by omega) n3.2 (by omega) (by omega)
    have u2 : 0 ≤ el τ0 69 p * el τ0 66 p := Int.mul_nonneg (by omega) (by omega)
    show el τ0 67 p * el τ0 68 p - el τ0 69 p * el τ0 66 p ≤ _
    omega
  have g0 : 0 < gC (spU τ0 p) (spD τ0 p) := gC_pos D0
  have gle : gC (spU τ0 p) (spD τ0 p) ≤ spD τ0 p := gC_le D0
  have dU : gC (spU τ0 p) (spD τ0 p) ∣ spU τ0 p := Int.gcd_dvd_left _ _
  have dD : gC (spU τ0 p) (spD τ0 p) ∣ spD τ0 p := Int.gcd_dvd_right _ _
  have U1 := dv_pos dU (by omega) (by omega)
  have D1 := dv_pos dD (by omega) (by omega)
  have Ul : spU τ0 p / gC (spU τ0 p) (spD τ0 p) ≤ spU τ0 p := Int.ediv_le_self _ (by omega)
  have Dl : spD τ0 p / gC (spU τ0 p) (spD τ0 p) ≤ spD τ0 p := Int.ediv_le_self _ (by omega)
  have dg : 1 ≤ spD τ0 p / gC (spU τ0 p) (spD τ0 p) * gr τ0 (kd τ0 p 0) := by
    have := Int.mul_le_mul_of_nonneg_right D1 (show 0 ≤ gr τ0 (kd τ0 p 0) by omega)
    omega
  have dle := dv_le n8 g1
  have sa : r_spanAbove N τ2 p = some (τ2, spU τ0 p / gC (spU τ0 p) (spD τ0 p)) := by
    rw [r_spanAbove, grd_t (by exact ⟨by omega, by omega⟩), q4.t 67 _ (by decide), q4.t 68 _ (by decide), q4.t 69 _ (by decide), q4.t 66 _ (by decide), bnd, bnd, r_common' hN (show 0 ≤ spU τ0 p by omega) (by omega) (show 0 ≤ spD τ0 p by omega) (by omega), Option.bind_some, grd_t (show i32 (spU τ0 p) from ⟨by omega, by omega⟩), grd_t (by exact ⟨by omega, by omega⟩), grd_t (by omega), td_pos (show 0 ≤ spU τ0 p by omega)]
  have sl : r_spanBelow N τ2 p = some (τ2, spD τ0 p / gC (spU τ0 p) (spD τ0 p)) := by
    rw [r_spanBelow, grd_t (by exact ⟨by omega, by omega⟩), q4.t 67 _ (by decide), q4.t 68 _ (by decide), q4.t 69 _ (by decide), q4.t 66 _ (by decide), bnd, bnd, r_common' hN (show 0 ≤ spU τ0 p by omega) (by omega) (show 0 ≤ spD τ0 p by omega) (by omega), Option.bind_some, grd_t (show i32 (spD τ0 p) from ⟨by omega, by omega⟩), grd_t (by exact ⟨by omega, by omega⟩), grd_t (by omega), td_pos (show 0 ≤ spD τ0 p by omega)]
  generalize hu : spU τ0 p / gC (spU τ0 p) (spD τ0 p) = u at U1 Ul sa
  generalize hv : spD τ0 p / gC (spU τ0 p) (spD τ0 p) = v at D1 Dl n8 dg dle sl
  obtain ⟨τ3, y1, y2, y3⟩ := q4.mv0 h (by rw [ab_len]; omega) (u * (gr τ0 p / (v * gr τ0 (kd τ0 p 0)))) (c * gr τ0 p + el τ0 69 p * (gr τ0 p / el τ0 68 p) - c * gr τ0 (kd τ0 p 0) * (u * (gr τ0 p / (v * gr τ0 (kd τ0 p 0)))))
  refine GO.done h q4 (τ1 := τ3) ?_ ?_
  · obtain ⟨-, st⟩ := r_step_k h q4
    rw [st (r_single N τ2 k p c) (Or.inr (Or.inr (Or.inr (Or.inr (Or.inr (Or.inr (Or.inl ⟨by omega, rfl⟩)))))))]
    have : r_single N τ2 k p c = some (τ3, 0) := by
      rw [r_single, grd_t (by exact ⟨by omega, by omega⟩), q6, grd_t (by decide), if_neg (by decide), grd_t (by exact ⟨by omega, by omega⟩), q4.t 63 _ (by decide), show el τ0 63 p = gr τ0 p from rfl, grd_t (by exact ⟨by omega, by omega⟩), bnd, q4.t 70 _ (by decide), hK, grd_t (by decide)]
      show Option.bind (r_spanAbove N τ2 p) _ = _
      rw [sa, Option.bind_some, grd_t (show i32 u from ⟨by omega, by omega⟩), sl, Option.bind_some, grd_t (show i32 v from ⟨by omega, by omega⟩), q4.grn h q7 (by omega) (by omega), Option.bind_some, grd_t (by exact ⟨by omega, by omega⟩), grd_t (show i64 (v * gr τ0 (kd τ0 p 0)) from ⟨by omega, by omega⟩), grd_t (show ¬ v * gr τ0 (kd τ0 p 0) = 0 by omega), bnd, q4.t 69 _ (by decide), grd_t (by exact ⟨by omega, by omega⟩), q4.t 68 _ (by decide), grd_t (by exact ⟨by omega, by omega⟩), grd_t (by exact ⟨by omega, by omega⟩), grd_t (by omega), q4.grn h q7 (by omega) (by omega), Option.bind_some, td_pos (show 0 ≤ gr τ0 p by omega), td_pos (show 0 ≤ gr τ0 p by omega), q5]
      simp only
      rw [y1, Option.bind_some]
    rw [this, fin0]
  · have er : rowK τ0 (rowL τ0 d) p c = mv (u * (gr τ0 p / (v * gr τ0 (kd τ0 p 0)))) (el τ0 69 p * (gr τ0 p / el τ0 68 p)) (rowL τ0 d (kd τ0 p 0) c) := by
      unfold rowK
      simp only [hK]
      rw [hu, hv]
      rfl
    rw [er]
    rw [ab_mv (b' := el τ0 69 p * (gr τ0 p / el τ0 68 p)) (o' := c * gr τ0 p)] at y2
    · exact y2
    · omega
end RS
