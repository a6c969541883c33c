/-! rows of the reference: sequences to their end, layers, polymeters, spreads -/
section RQ2
variable {N : Nat} {τ0 : St} {d : Nat} {k p c : Int}
/-- from what a step comes to -/
theorem GO.res {τ τ2 : St} {e : Int} {A L : List Evt} (h : PR2 N τ0 d k p c e) (hA : NR τ0 τ k p c e A τ2) {R : Option (St × Int)} {F : Option (St × Int)} (hs : r_step N τ2 k = Option.bind F (fun r => grd (i32 r.2) (if r.2 = 0 then r_step_292 N r.1 else some r.1))) (hF : F = R) {T : Nat} (r2 : (∃ τ3, R = some (τ3, 0) ∧ NR τ0 τ k p c e L τ3) ∨ (∃ τ1 κ τ3 M, R = some (τ1, 1) ∧ κ ≤ sbd d ∧ Rnd N κ τ1 τ3 ∧ NR τ0 τ k p c e M τ3 ∧ GO N τ k e L τ3 T)) : GO N τ k e L τ2 (1 + T + (sbd d + 1)) := by
  rw [hF] at hs
  rcases r2 with ⟨τ6, x1, x2⟩ | ⟨τ6, κ2, τ7, M, x1, x2, x3, x4, x5⟩
  · rw [x1, fin0] at hs
    exact (GO.done h hA hs x2).wk (by omega)
  · rw [x1, fin1] at hs
    exact (GO.call h hA hs x3 x2 x5).wk (by omega)
theorem nS_b : ∀ (l : List Kid), (∀ x ∈ l, 1 ≤ x.2.2 ∧ x.2.2 ≤ 1000) → nS l ≤ 1000 * l.length
  | [], _ => Nat.le_refl _
  | x :: l, h => by
    have := nS_b l (fun y hy => h y (by simp [hy]))
    have := h x (by simp)
    rw [nS, List.length_cons, Nat.mul_succ]
    omega
theorem rk_4 {τ : St} (h : PR2 N τ0 d k p c (fl τ 84 0)) (tb : TB τ0 τ) (hF : FRM τ k p c) (hK : el τ0 70 p = 4) (hn : NK4 τ0 p) : GO N τ k (fl τ 84 0) (ab (c * gr τ0 p) (rowK τ0 (rowL τ0 d) p c)) τ (1 + (1 + 500000000 * (sbd d + 1)) + (sbd d + 1)) := by
  obtain ⟨n0, G, n1, n2, n3⟩ := hn
  obtain ⟨hHR, hT, hC, k0, k1, e0, e1, hN⟩ := id h
  obtain ⟨⟨g1, g2⟩, -⟩ := hT.2.1
  have pp := hT.pos
  have bT := hT.2.2.1
  have hp : ∀ x ∈ kl τ0 p, 1 ≤ x.2.1 ∧ 1 ≤ x.2.2 := fun x hx => ⟨(n3 x hx).1.1, (n3 x hx).2.1.1⟩
  have hwb := kw_b (τ0 := τ0) (p := p) (fun x hx => ⟨(n3 x hx).1, (n3 x hx).2.1⟩)
  obtain ⟨w0, w1⟩ := wS_pos hp
  have kne : 0 < (kl τ0 p).length := by show 0 < (kidF _ _ _).length; rw [kidF_len]; omega
  have wp : 1 ≤ wS (kl τ0 p) := by
    have k1 := hp _ (List.getElem_mem kne)
    have k2 := w1 _ (List.getElem_mem kne)
    omega
  have hG : 1 ≤ G := by
    rcases Int.lt_or_le 0 G with h | h
    · omega
    · have := Int.mul_le_mul_of_nonneg_left h w0
      omega
  have hs : gr τ0 p / wS (kl τ0 p) = G := by rw [n1, Int.mul_ediv_cancel_left _ (by omega)]
  have hA0 := NR.rf (τ0 := τ0) tb hF
  have hA1 := hA0.se (a := 33) (by decide) (wS (kl τ0 p))
  obtain ⟨m, hm⟩ : ∃ m : Nat, (el τ0 64 p).toNat = m + 1 := ⟨(el τ0 64 p).toNat - 1, by omega⟩
  have kle : kl τ0 p = (kd τ0 p 0, el τ0 57 (el τ0 65 p + 0) % 32, el τ0 57 (el τ0 65 p + 0) / 32) :: kidF τ0 (el τ0 65 p + 0 + 1) m := by
    unfold kl
    rw [hm, kidF_drop, Int.add_zero]
    show _ = (el τ0 58 (el τ0 65 p + 0), _, _) :: _
    rw [Int.add_zero]
  have x1 := (n3 _ (kl_get (i := 0) (by omega) (by omega))).2.1
  simp only at x1
  have nb : nS (kl τ0 p) ≤ 1000 * 210000 := by
    have := nS_b (kl τ0 p) (fun x hx => (n3 x hx).2.1)
    have kln : (kl τ0 p).length = (el τ0 64 p).toNat := kidF_len _ _ _
    have : 1000 * (kl τ0 p).length ≤ 1000 * 210000 := Nat.mul_le_mul_left _ (by omega)
    omega
  have nse : nS (kl τ0 p) = (el τ0 57 (el τ0 65 p + 0) / 32).toNat + nS (kidF τ0 (el τ0 65 p + 0 + 1) m) := by rw [kle, nS]
  have cse : crS τ0 (kl τ0 p) = el τ0 57 (el τ0 65 p + 0) / 32 * cw τ0 (kd τ0 p 0) + crS τ0 (kidF τ0 (el τ0 65 p + 0 + 1) m) := by rw [kle, crS]
  obtain ⟨R, r1, r2⟩ := rk_seq_lp h hK hG n1 wp n3 (nS (kl τ0 p)) (m + 1) 0 0 (el τ0 57 (el τ0 65 p + 0) / 32).toNat _ [] hA1 (by rw [el_sen _ _ _ _ (by decide)]; exact hF.2.2.2.2.2.2.1) (by rw [el_sen _ _ _ _ (by decide)]; exact hF.2.2.2.2.2.2.2.2.1) (el_ses _ _ _ _) (Int.le_refl _) (by omega) (fun _ => ⟨by rw [el_sen _ _ _ _ (by decide), hF.2.2.2.2.2.2.2.1]; omega, by omega, by rw [el_sen _ _ _ _ (by decide), hF.2.2.2.2.2.2.2.1]; omega⟩) (fun h0 => by omega) (fun _ => nse) (fun _ => by
    rw [Int.toNat_of_nonneg (by omega), Nat.add_sub_cancel]
    simp only [List.length_nil]
    omega)
  have er : rowK τ0 (rowL τ0 d) p c = [] ++ (if 0 < m + 1 then repL (rowL τ0 d (kd τ0 p 0) c) (el τ0 57 (el τ0 65 p + 0) % 32 * (G / gr τ0 (kd τ0 p 0))) G (el τ0 57 (el τ0 65 p + 0) % 32) (el τ0 57 (el τ0 65 p + 0) / 32).toNat 0 ++ seqL τ0 (fun x => rowL τ0 d x c) G (kidF τ0 (el τ0 65 p + 0 + 1) (m + 1 - 1)) (0 + (el τ0 57 (el τ0 65 p + 0) / 32).toNat * (el τ0 57 (el τ0 65 p + 0) % 32)) else []) := by
    have : rowK τ0 (rowL τ0 d) p c = seqL τ0 (fun x => rowL τ0 d x c) G (kl τ0 p) 0 := by
      unfold rowK
      simp only [hK]
      rw [hs]
      rfl
    rw [this, kle, seqL, List.nil_append, if_pos (by omega), Nat.add_sub_cancel]
    simp only
    rw [Int.toNat_of_nonneg (by omega), Int.mul_comm (el τ0 57 (el τ0 65 p + 0) / 32)]
  rw [er]
  obtain ⟨-, st⟩ := r_step_k h hA0
  refine (GO.res h hA0 (st (r_sequence N τ k p c) (Or.inl ⟨hK, rfl⟩)) (R := R) ?_ r2).wk ?_
  · rw [r_sequence, grd_t (by exact ⟨by omega, by omega⟩), tb.1 63 _ (by decide), show el τ0 63 p = gr τ0 p from rfl, grd_t (by exact ⟨by omega, by omega⟩), bnd, grd_t (by exact ⟨by omega, by omega⟩), hF.2.2.2.1, grd_t (by decide), if_pos rfl, r_weights' hT tb hN hwb, Option.bind_some]
    exact r1
  · have : nS (kl τ0 p) * (sbd d + 1) ≤ 500000000 * (sbd d + 1) := Nat.mul_le_mul_right _ (by omega)
    omega
/-- layers -/
theorem rk_all_lp {τ : St} (h : PR2 N τ0 d k p c (fl τ 84 0)) (hK : el τ0 70 p = 5) (hn : NK5 τ0 p) : ∀ (m : Nat) (i : Int) (τ2 : St) (B : List Evt), NR τ0 τ k p c (fl τ 84 0) (ab (c * gr τ0 p) B) τ2 → el τ2 37 k = i → 0 ≤ i → i + m = el τ0 64 p → B.length + crS τ0 (kidF τ0 (el τ0 65 p + i) m) ≤ cw τ0 p → Gu 0 (gr τ0 p) (rc τ0 p * gr τ0 p) B → ∃ R, r_together_44 N τ2 k p c = R ∧ ((∃ τ3, R = some (τ3, 0) ∧ NR τ0 τ k p c (fl τ 84 0) (ab (c * gr τ0 p) (sortE (B ++ allL τ0 (fun x => rowL τ0 d x c) (gr τ0 p) (kidF τ0 (el τ0 65 p + i) m)))) τ3) ∨ (∃ τ1 κ τ3 M, R = some (τ1, 1) ∧ κ ≤ sbd d ∧ Rnd N κ τ1 τ3 ∧ NR τ0 τ k p c (fl τ 84 0) M τ3 ∧ GO N τ k (fl τ 84 0) (ab (c * gr τ0 p) (sortE (B ++ allL τ0 (fun x => rowL τ0 d x c) (gr τ0 p) (kidF τ0 (el τ0 65 p + i) m)))) τ3 (1 + m * (sbd d + 2)))) := by
  obtain ⟨hHR, hT, hC, k0, k1, e0, e1, hN⟩ := id h
  obtain ⟨⟨g1, g2⟩, ⟨cp1, cp2⟩, ⟨rp1, rp2⟩, ⟨wp1, wp2⟩, -⟩ := hT.2.1
  have pp := hT.pos
  have bT := hT.2.2.1
  have cb := hC.abs hT.2.1
  have ph := phi_lo (show 0 ≤ wk τ0 p by omega)
  intro m
  induction m with
  | zero =>
    intro i τ2 B hA h37 i0 hi hl hg
    have e39 : el τ2 39 k = fl τ 84 0 := hA.2.2.2.2.1
    rw [kidF, crS] at hl
    obtain ⟨τ9, u1, u2, u3, u4⟩ := r_sort' (N := N) (τ := τ2) (m := fl τ 84 0) (by omega) e0 hA.2.2.2.2.2.2.2 (fun x hx => by
      obtain ⟨y, hy, rfl⟩ := List.mem_map.1 hx
      show i64 (y.1 + c * gr τ0 p)
      have := (hg y hy).1
      exact ⟨by omega, by omega⟩) (by rw [hA.2.2.2.2.2.2.1]) (by rw [hA.2.2.2.2.2.2.1, ab_len]; omega)
    refine ⟨_, rfl, Or.inl ⟨τ9, ?_, ?_⟩⟩
    · rw [r_together_44, grd_t (by exact ⟨by omega, by omega⟩), grd_t (by exact ⟨by omega, by omega⟩), h37, grd_t (by exact ⟨by omega, by omega⟩), hA.t 64 _ (by decide), grd_t (by exact ⟨by omega, by omega⟩), if_neg (by omega), e39, u1, Option.bind_some]
    · rw [kidF, allL, List.append_nil, ← ab_sort]
      have := NR.ev (A := []) (M := sortE (ab (c * gr τ0 p) B)) (τ' := τ9) hA (by simp only [List.length_nil]; rw [show fl τ 84 0 + ((0 : Nat) : Int) = fl τ 84 0 by omega]; exact u2) (by
        simp only [List.length_nil]
        rw [u3, hA.2.2.2.2.2.2.1]
        show _ = _ + ((isoL ltE _).length : Int)
        rw [isoL_len]
        omega) (by simp only [List.length_nil]; rw [show fl τ 84 0 + ((0 : Nat) : Int) = fl τ 84 0 by omega]; exact u4)
      exact this
  | succ m ih =>
    intro i τ2 B hA h37 i0 hi hl hg
    obtain ⟨o1, kd3, kd4, kd5⟩ := hn.2 _ (kl_get i0 (show i < el τ0 64 p by omega))
    simp only at o1 kd3 kd4 kd5
    obtain ⟨kt, kr⟩ := h.kn i0 (show i < el τ0 64 p by omega)
    obtain ⟨⟨kg1, kg2⟩, ⟨kc1, kc2⟩, -, ⟨kw1, kw2⟩, -⟩ := kr
    have hl : (B.length : Int) + (el τ0 57 (el τ0 65 p + i) / 32 * cw τ0 (kd τ0 p i) + crS τ0 (kidF τ0 (el τ0 65 p + i + 1) m)) ≤ cw τ0 p := hl
    rw [o1, Int.one_mul] at hl
    have cr0 : 0 ≤ crS τ0 (kidF τ0 (el τ0 65 p + i + 1) m) := crS_nn _ (fun x hx => by
      obtain ⟨j, j0, j1, rfl⟩ := kidF_mem hx
      have e : el τ0 65 p + i + 1 + j = el τ0 65 p + (i + 1 + j) := by omega
      rw [e]
      have := (hn.2 _ (kl_get (i := i + 1 + j) (by omega) (by omega))).1
      simp only at this
      exact ⟨by show 0 ≤ el τ0 57 (el τ0 65 p + (i + 1 + j)) / 32; omega, (h.kn (i := i + 1 + j) (by omega) (by omega)).2.2.1.1⟩)
    have pm := phi_mono kd5 wp2
    obtain ⟨τ1, κ, τ3, q1, q2, q3, q4, q5, q6, q7, -⟩ := hA.kid h (c' := c) i0 (by omega) (hC.same kw1 kd5 (by omega) (by omega)) (by rw [ab_len]; omega)
    rw [ab_len] at q5
    have gd := row_good d (kd τ0 p i) c kt
    have gl := gd.1
    refine ⟨some (τ1, 1), ?_, Or.inr ⟨τ1, κ, τ3, _, rfl, q2, q3, q4, ?_⟩⟩
    · rw [r_together_44, grd_t (by exact ⟨by omega, by omega⟩), grd_t (by exact ⟨by omega, by omega⟩), h37, grd_t (by exact ⟨by omega, by omega⟩), hA.t 64 _ (by decide), grd_t (by exact ⟨by omega, by omega⟩), if_pos (by omega), q1, Option.bind_some]
    · have dp := dv_pos kd3 kg1 g1
      have dm := dv_mul kd3
      obtain ⟨τ4, y1, y2, y3⟩ := NR.mvd h q4 (by rw [ab_len, ab_len]; omega) (gr τ0 p / gr τ0 (kd τ0 p i)) 0
      rw [ab_len] at y1
      rw [ab_mv (b' := 0) (o' := c * gr τ0 p) _ (by rw [Int.mul_assoc, Int.mul_comm (gr τ0 (kd τ0 p i)), dm]), ← ab_app] at y2
      have w4 := y2.se (a := 37) (by decide) (i + 1)
      obtain ⟨R, r1, r2⟩ := ih (i + 1) _ _ w4 (el_ses _ _ _ _) (by omega) (by omega) (by rw [List.length_append, mv_len, show el τ0 65 p + (i + 1) = el τ0 65 p + i + 1 by omega]; omega) (hg.app (gd.kid kg1 kd3 g1 kd4).1)
      have rr : r_together N τ3 k p c = R := by
        rw [r_together, grd_t (by exact ⟨by omega, by omega⟩), q6, grd_t (by decide), if_pos rfl, grd_t (by exact ⟨by omega, by omega⟩), q4.t 63 _ (by decide), show el τ0 63 p = gr τ0 p from rfl, grd_t (by exact ⟨by omega, by omega⟩), q4.grn h q7 i0 (by omega), Option.bind_some, grd_t (by exact ⟨by omega, by omega⟩), grd_t (by exact ⟨by omega, by omega⟩), grd_t (by omega), td_pos (by omega), q5, y1, Option.bind_some, show el τ4 37 k = i by rw [y3 37 (by decide)]; exact q7]
        exact r1
      obtain ⟨-, st⟩ := r_step_k h q4
      rw [kidF_drop, allL, ← List.append_assoc]
      rw [show el τ0 65 p + (i + 1) = el τ0 65 p + i + 1 by omega] at r2
      refine (GO.res h q4 (st (r_together N τ3 k p c) (Or.inr (Or.inl ⟨hK, rfl⟩))) rr r2).wk ?_
      rw [Nat.succ_mul]
      omega
theorem rk_5 {τ : St} (h : PR2 N τ0 d k p c (fl τ 84 0)) (tb : TB τ0 τ) (hF : FRM τ k p c) (hK : el τ0 70 p = 5) (hn : NK5 τ0 p) : GO N τ k (fl τ 84 0) (ab (c * gr τ0 p) (rowK τ0 (rowL τ0 d) p c)) τ (1 + (1 + 500000000 * (sbd d + 2)) + (sbd d + 1)) := by
  obtain ⟨hHR, hT, hC, k0, k1, e0, e1, hN⟩ := id h
  have pp := hT.pos
  have bT := hT.2.2.1
  have hA0 := NR.rf (τ0 := τ0) tb hF
  obtain ⟨R, r1, r2⟩ := rk_all_lp h hK hn (el τ0 64 p).toNat 0 τ [] hA0 hF.2.2.2.2.2.2.1 (Int.le_refl _) (by omega) (by
    rw [Int.add_zero]
    have : crS τ0 (kidF τ0 (el τ0 65 p) (el τ0 64 p).toNat) ≤ cw τ0 p := hn.1
    simp only [List.length_nil]
    omega) Gu.nil
  have er : rowK τ0 (rowL τ0 d) p c = sortE ([] ++ allL τ0 (fun x => rowL τ0 d x c) (gr τ0 p) (kidF τ0 (el τ0 65 p + 0) (el τ0 64 p).toNat)) := by
    unfold rowK
    simp only [hK]
    rw [List.nil_append, Int.add_zero]
    rfl
  rw [er]
  obtain ⟨-, st⟩ := r_step_k h hA0
  refine (GO.res h hA0 (st (r_together N τ k p c) (Or.inr (Or.inl ⟨hK, rfl⟩))) (R := R) ?_ r2).wk ?_
  · rw [r_together, grd_t (by exact ⟨by omega, by omega⟩), hF.2.2.2.1, grd_t (by decide), if_neg (by decide)]
    exact r1
  · have : (el τ0 64 p).toNat * (sbd d + 2) ≤ 500000000 * (sbd d + 2) := Nat.mul_le_mul_right _ (by omega)
    omega
/-- polymeters -/
theorem rk_poly_lp {τ : St} (h : PR2 N τ0 d k p c (fl τ 84 0)) (hK : el τ0 70 p = 7) (hn : NK7 τ0 p) {G : Int} (hG : 1 ≤ G) (hGp : gr τ0 p = el τ0 69 p * G) (hW : 1 ≤ wS (kl τ0 p)) (hkd : ∀ x ∈ kl τ0 p, gr τ0 x.1 ∣ G) : ∀ (m : Nat) (q : Int) (τ2 : St) (B : List Evt), NR τ0 τ k p c (fl τ 84 0) (ab (c * gr τ0 p) B) τ2 → el τ2 36 k = q → 0 ≤ q → q + m = el τ0 69 p → (B.length : Int) ≤ q * (cw τ0 p / el τ0 69 p) → ∃ R, r_poly_98 N τ2 k p c (el τ0 69 p) = R ∧ ((∃ τ3, R = some (τ3, 0) ∧ NR τ0 τ k p c (fl τ 84 0) (ab (c * gr τ0 p) (B ++ polL τ0 (rowL τ0 d) (kl τ0 p) c (el τ0 69 p) G m q)) τ3) ∨ (∃ τ1 κ τ3 M, R = some (τ1, 1) ∧ κ ≤ sbd d ∧ Rnd N κ τ1 τ3 ∧ NR τ0 τ k p c (fl τ 84 0) M τ3 ∧ GO N τ k (fl τ 84 0) (ab (c * gr τ0 p) (B ++ polL τ0 (rowL τ0 d) (kl τ0 p) c (el τ0 69 p) G m q)) τ3 (1 + m * (sbd d + 2)))) := by
  obtain ⟨n0, n1, ⟨n2, n2'⟩, G', n3, n4⟩ := id hn
  obtain ⟨hHR, hT, hC, k0, k1, e0, e1, hN⟩ := id h
  obtain ⟨⟨g1, g2⟩, ⟨cp1, cp2⟩, ⟨rp1, rp2⟩, ⟨wp1, wp2⟩, -⟩ := hT.2.1
  have pp := hT.pos
  have bT := hT.2.2.1
  have cb := hC.abs hT.2.1
  have ph := phi_lo (show 0 ≤ wk τ0 p by omega)
  have hp : ∀ x ∈ kl τ0 p, 1 ≤ x.2.1 ∧ 1 ≤ x.2.2 := fun x hx => ⟨(n4 x hx).1.1, (n4 x hx).2.1.1⟩
  have hwb := kw_b (τ0 := τ0) (p := p) (fun x hx => ⟨(n4 x hx).1, (n4 x hx).2.1⟩)
  have w0 : 0 ≤ wS (kl τ0 p) := by omega
  have kne : kl τ0 p ≠ [] := fun e => by rw [e] at hW; simp [wS] at hW
  have hs : gr τ0 p / el τ0 69 p = G := by rw [hGp, Int.mul_ediv_cancel_left _ (by omega)]
  have Gl : G ≤ gr τ0 p := by
    rw [hGp]
    have := Int.mul_le_mul_of_nonneg_right n2 (show 0 ≤ G by omega)
    omega
  have u5 : -640000000000 ≤ c * el τ0 69 p ∧ c * el τ0 69 p ≤ 640000000000 := by
    by_cases hc : 0 ≤ c
    · have a1 : c * el τ0 69 p ≤ c * 64 := Int.mul_le_mul_of_nonneg_left (by omega) hc
      have := Int.mul_nonneg hc (show 0 ≤ el τ0 69 p by omega)
      omega
    · have a1 : c * el τ0 69 p ≤ 0 := Int.mul_nonpos_of_nonpos_of_nonneg (by omega) (by omega)
      have a2 : c * 64 ≤ c * el τ0 69 p := Int.mul_le_mul_of_nonpos_left (by omega) (by omega)
      omega
  have db : ∀ y : Int, -(if 0 ≤ y then y else -y) ≤ y / wS (kl τ0 p) ∧ y / wS (kl τ0 p) ≤ (if 0 ≤ y then y else -y) := by
    intro y
    split
    · have := Int.ediv_nonneg (show 0 ≤ y by assumption) w0
      have := Int.ediv_le_self (wS (kl τ0 p)) (show 0 ≤ y by assumption)
      omega
    · have h1 : y ≤ y / wS (kl τ0 p) := by
        rw [Int.le_ediv_iff_mul_le (by omega)]
        have := Int.mul_le_mul_of_nonpos_left (a := y) (by omega) hW
        omega
      have h2 : y / wS (kl τ0 p) ≤ 0 := by
        have := Int.ediv_neg_of_neg_of_pos (show y < 0 by omega) (show 0 < wS (kl τ0 p) by omega)
        omega
      omega
  intro m
  induction m with
  | zero =>
    intro q τ2 B hA h36 q0 hq hl
    refine ⟨_, rfl, Or.inl ⟨τ2, ?_, by rw [polL, List.append_nil]; exact hA⟩⟩
    rw [r_poly_98, grd_t (by exact ⟨by omega, by omega⟩), h36, grd_t (by exact ⟨by omega, by omega⟩), grd_t (by exact ⟨by omega, by omega⟩), if_pos (by omega)]
  | succ m ih =>
    intro q τ2 B hA h36 q0 hq hl
    have m0 := Int.emod_nonneg (c * el τ0 69 p + q) (show wS (kl τ0 p) ≠ 0 by omega)
    have m1 := Int.emod_lt_of_pos (c * el τ0 69 p + q) (show 0 < wS (kl τ0 p) by omega)
    have hA1 := hA.se (a := 34) (by decide) ((c * el τ0 69 p + q) / wS (kl τ0 p))
    obtain ⟨i, i0, i1, i2, i3⟩ := r_kidAt' (N := N) hT hA1.1 hN ⟨m0, m1⟩ n1 hwb hp
    obtain ⟨kk, hkk, ek⟩ : ∃ x ∈ kl τ0 p, x.1 = kd τ0 p i := by
      obtain ⟨k', hk', e⟩ := katL_mem ((c * el τ0 69 p + q) % wS (kl τ0 p)) kne
      exact ⟨k', hk', by rw [← e, i3]⟩
    have k3 := hkd kk hkk
    obtain ⟨-, -, -, k4, k5, k6⟩ := n4 kk hkk
    rw [ek] at k3 k4 k5 k6
    obtain ⟨kt, kr⟩ := h.kn i0 i1
    obtain ⟨⟨kg1, kg2⟩, ⟨kc1, kc2⟩, -, ⟨kw1, kw2⟩, -⟩ := kr
    have kwl : wk τ0 (kd τ0 p i) ≤ wk τ0 p := by
      have := Int.mul_le_mul_of_nonneg_right n2 (show 0 ≤ wk τ0 (kd τ0 p i) by omega)
      omega
    have pm := phi_mono kwl wp2
    have dbv := db (c * el τ0 69 p + q)
    have kc : CB τ0 d (kd τ0 p i) ((c * el τ0 69 p + q) / wS (kl τ0 p)) := hC.kid (m := el τ0 69 p) n2 kw1 k6 (fun X x0 x1 x2 => by
      have u1 : c * el τ0 69 p ≤ X * el τ0 69 p := Int.mul_le_mul_of_nonneg_right x2 (by omega)
      have u2 : -X * el τ0 69 p ≤ c * el τ0 69 p := Int.mul_le_mul_of_nonneg_right x1 (by omega)
      rw [Int.neg_mul] at u2
      have u3 : (X + 65) * el τ0 69 p = X * el τ0 69 p + 65 * el τ0 69 p := Int.add_mul _ _ _
      have u4 : 0 ≤ X * el τ0 69 p := Int.mul_nonneg x0 (by omega)
      split at dbv <;> omega)
    have cq : cw τ0 (kd τ0 p i) ≤ cw τ0 p / el τ0 69 p := by
      rw [Int.le_ediv_iff_mul_le (by omega), Int.mul_comm]
      exact k4
    have cq2 : (q + 1) * (cw τ0 p / el τ0 69 p) ≤ cw τ0 p := by
      have a1 := Int.ediv_mul_le (cw τ0 p) (show el τ0 69 p ≠ 0 by omega)
      have a2 : (q + 1) * (cw τ0 p / el τ0 69 p) ≤ el τ0 69 p * (cw τ0 p / el τ0 69 p) := Int.mul_le_mul_of_nonneg_right (by omega) (by omega)
      rw [Int.mul_comm (el τ0 69 p)] at a2
      omega
    have e6 : (q + 1) * (cw τ0 p / el τ0 69 p) = q * (cw τ0 p / el τ0 69 p) + cw τ0 p / el τ0 69 p := by rw [Int.add_mul]; omega
    obtain ⟨τ1, κ, τ3, q1, q2, q3, q4, q5, q6, q7, q8, q9, q10, q11⟩ := hA1.kid h i0 i1 kc (by rw [ab_len]; omega)
    rw [ab_len] at q5
    have gl := (row_good d (kd τ0 p i) ((c * el τ0 69 p + q) / wS (kl τ0 p)) kt).1
    refine ⟨some (τ1, 1), ?_, Or.inr ⟨τ1, κ, τ3, _, rfl, q2, q3, q4, ?_⟩⟩
    · rw [r_poly_98, grd_t (by exact ⟨by omega, by omega⟩), h36, grd_t (by exact ⟨by omega, by omega⟩), grd_t (by exact ⟨by omega, by omega⟩), if_neg (by omega), r_weights' hT hA.1 hN hwb, Option.bind_some, h36, grd_t (by exact ⟨by omega, by omega⟩), bnd, r_div' ⟨by omega, by omega⟩ ⟨by omega, by omega⟩ (by omega), Option.bind_some, r_mod' ⟨by omega, by omega⟩ ⟨by omega, by omega⟩ (by omega), Option.bind_some, bnd, i2, Option.bind_some, el_ses, q1, Option.bind_some]
    · have dp := dv_pos k3 kg1 hG
      have dm := dv_mul k3
      obtain ⟨τ4, y1, y2, y3⟩ := NR.mvd h q4 (by rw [ab_len, ab_len]; omega) (G / gr τ0 (kd τ0 p i)) (c * gr τ0 p + q * G - (c * el τ0 69 p + q) / wS (kl τ0 p) * gr τ0 (kd τ0 p i) * (G / gr τ0 (kd τ0 p i)))
      rw [ab_len] at y1
      rw [ab_mv (b' := q * G) (o' := c * gr τ0 p) _ (by omega), ← ab_app] at y2
      have e36 : el τ3 36 k = q := by rw [q8, el_sen _ _ _ _ (by decide)]; exact h36
      have e34 : el τ3 34 k = (c * el τ0 69 p + q) / wS (kl τ0 p) := by rw [q10]; exact el_ses _ _ _ _
      have w4 := y2.se (a := 36) (by decide) (q + 1)
      obtain ⟨R, r1, r2⟩ := ih (q + 1) _ _ w4 (el_ses _ _ _ _) (by omega) (by omega) (by rw [List.length_append, mv_len]; omega)
      have rr : r_poly N τ3 k p c = R := by
        rw [r_poly, grd_t (by exact ⟨by omega, by omega⟩), q4.t 69 _ (by decide), bnd, grd_t (by exact ⟨by omega, by omega⟩), q6, grd_t (by decide), if_pos rfl, q4.t 63 _ (by decide), show el τ0 63 p = gr τ0 p from rfl, grd_t (by exact ⟨by omega, by omega⟩), grd_t (by exact ⟨by omega, by omega⟩), grd_t (by omega), td_pos (by omega), hs, grd_t (by exact ⟨by omega, by omega⟩), bnd, q4.grn h q7 i0 i1, Option.bind_some, grd_t (by exact ⟨by omega, by omega⟩), grd_t (by exact ⟨by omega, by omega⟩), grd_t (by omega), bnd, td_pos (by omega), q4.t 63 _ (by decide), show el τ0 63 p = gr τ0 p from rfl, grd_t (by exact ⟨by omega, by omega⟩), e36, grd_t (by exact ⟨by omega, by omega⟩), q4.grn h q7 i0 i1, Option.bind_some, q5, e34]
        simp only
        rw [y1, Option.bind_some, show el τ4 36 k = q by rw [y3 36 (by decide)]; exact e36]
        exact r1
      obtain ⟨-, st⟩ := r_step_k h q4
      rw [polL, i3, ← List.append_assoc]
      refine (GO.res h q4 (st (r_poly N τ3 k p c) (Or.inr (Or.inr (Or.inr (Or.inl ⟨hK, rfl⟩))))) rr r2).wk ?_
      rw [Nat.succ_mul]
      omega
theorem rk_7 {τ : St} (h : PR2 N τ0 d k p c (fl τ 84 0)) (tb : TB τ0 τ) (hF : FRM τ k p c) (hK : el τ0 70 p = 7) (hn : NK7 τ0 p) : GO N τ k (fl τ 84 0) (ab (c * gr τ0 p) (rowK τ0 (rowL τ0 d) p c)) τ (1 + (1 + 32 * (sbd d + 2)) + (sbd d + 1)) := by
  obtain ⟨n0, n1, ⟨n2, n2'⟩, G, n3, n4⟩ := id hn
  obtain ⟨hHR, hT, hC, k0, k1, e0, e1, hN⟩ := id h
  obtain ⟨⟨g1, g2⟩, -⟩ := hT.2.1
  have pp := hT.pos
  have hp : ∀ x ∈ kl τ0 p, 1 ≤ x.2.1 ∧ 1 ≤ x.2.2 := fun x hx => ⟨(n4 x hx).1.1, (n4 x hx).2.1.1⟩
  obtain ⟨w0, w1⟩ := wS_pos hp
  have kne : 0 < (kl τ0 p).length := by show 0 < (kidF _ _ _).length; rw [kidF_len]; omega
  have wp : 1 ≤ wS (kl τ0 p) := by
    have k1 := hp _ (List.getElem_mem kne)
    have k2 := w1 _ (List.getElem_mem kne)
    omega
  have hG : 1 ≤ G := by
    rcases Int.lt_or_le 0 G with h | h
    · omega
    · have := Int.mul_le_mul_of_nonneg_left h (show 0 ≤ el τ0 69 p by omega)
      omega
  have hs : gr τ0 p / el τ0 69 p = G := by rw [n3, Int.mul_ediv_cancel_left _ (by omega)]
  have hA0 := NR.rf (τ0 := τ0) tb hF
  obtain ⟨R, r1, r2⟩ := rk_poly_lp h hK hn hG n3 wp (fun x hx => (n4 x hx).2.2.1) (el τ0 69 p).toNat 0 τ [] hA0 hF.2.2.2.2.2.2.2.1 (Int.le_refl _) (by omega) (by simp)
  have er : rowK τ0 (rowL τ0 d) p c = [] ++ polL τ0 (rowL τ0 d) (kl τ0 p) c (el τ0 69 p) G (el τ0 69 p).toNat 0 := by
    unfold rowK
    simp only [hK]
    rw [hs]
    rfl
  rw [er]
  obtain ⟨-, st⟩ := r_step_k h hA0
  refine (GO.res h hA0 (st (r_poly N τ k p c) (Or.inr (Or.inr (Or.inr (Or.inl ⟨hK, rfl⟩))))) (R := R) ?_ r2).wk ?_
  · rw [r_poly, grd_t (by exact ⟨by omega, by omega⟩), tb.1 69 _ (by decide), bnd, grd_t (by exact ⟨by omega, by omega⟩), hF.2.2.2.1, grd_t (by decide), if_neg (by decide)]
    exact r1
  · have : (el τ0 69 p).toNat * (sbd d + 2) ≤ 32 * (sbd d + 2) := Nat.mul_le_mul_right _ (by omega)
    omega
end RQ2
