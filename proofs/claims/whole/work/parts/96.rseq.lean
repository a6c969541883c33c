/-! rows of the reference: sequences, layers -/
def nS : List Kid → Nat
  | [] => 0
  | x :: l => x.2.2.toNat + nS l
section RQ1
variable {N : Nat} {τ0 : St} {d : Nat} {k p c : Int}
theorem rk_seq_lp {τ : St} (h : PR2 N τ0 d k p c (fl τ 84 0)) (hK : el τ0 70 p = 4) {G : Int} (hG : 1 ≤ G) (hGp : gr τ0 p = wS (kl τ0 p) * G) (hW : 1 ≤ wS (kl τ0 p)) (hk : ∀ x ∈ kl τ0 p, (1 ≤ x.2.1 ∧ x.2.1 ≤ 31) ∧ (1 ≤ x.2.2 ∧ x.2.2 ≤ 1000) ∧ gr τ0 x.1 ∣ G ∧ rc τ0 x.1 ≤ rc τ0 p ∧ wk τ0 x.1 ≤ wk τ0 p) : ∀ (T m : Nat) (i a : Int) (q : Nat) (τ2 : St) (B : List Evt), NR τ0 τ k p c (fl τ 84 0) (ab (c * gr τ0 p) B) τ2 → el τ2 37 k = i → el τ2 35 k = a → el τ2 33 k = wS (kl τ0 p) → 0 ≤ i → i + m = el τ0 64 p → (0 < m → el τ2 36 k + q = el τ0 57 (el τ0 65 p + i) / 32 ∧ 1 ≤ q ∧ 0 ≤ el τ2 36 k) → (m = 0 → T = 0) → (0 < m → T = q + nS (kidF τ0 (el τ0 65 p + i + 1) (m - 1))) → (0 < m → B.length + (q * cw τ0 (kd τ0 p i) + crS τ0 (kidF τ0 (el τ0 65 p + i + 1) (m - 1))) ≤ cw τ0 p) → ∃ R, r_sequence_186 N τ2 k p c = R ∧ ((∃ τ3, R = some (τ3, 0) ∧ NR τ0 τ k p c (fl τ 84 0) (ab (c * gr τ0 p) (B ++ (if 0 < m then repL (rowL τ0 d (kd τ0 p i) c) (el τ0 57 (el τ0 65 p + i) % 32 * (G / gr τ0 (kd τ0 p i))) G (el τ0 57 (el τ0 65 p + i) % 32) q a ++ seqL τ0 (fun x => rowL τ0 d x c) G (kidF τ0 (el τ0 65 p + i + 1) (m - 1)) (a + q * (el τ0 57 (el τ0 65 p + i) % 32)) else []))) τ3) ∨ (∃ τ1 κ τ3 M, R = some (τ1, 1) ∧ κ ≤ sbd d ∧ Rnd N κ τ1 τ3 ∧ NR τ0 τ k p c (fl τ 84 0) M τ3 ∧ GO N τ k (fl τ 84 0) (ab (c * gr τ0 p) (B ++ (if 0 < m then repL (rowL τ0 d (kd τ0 p i) c) (el τ0 57 (el τ0 65 p + i) % 32 * (G / gr τ0 (kd τ0 p i))) G (el τ0 57 (el τ0 65 p + i) % 32) q a ++ seqL τ0 (fun x => rowL τ0 d x c) G (kidF τ0 (el τ0 65 p + i + 1) (m - 1)) (a + q * (el τ0 57 (el τ0 65 p + i) % 32)) else []))) τ3 (1 + T * (sbd d + 1)))) := by
  obtain ⟨hHR, hT, hC, k0, k1, e0, e1, hN⟩ := id h
  obtain ⟨⟨g1, g2⟩, ⟨cp1, cp2⟩, ⟨rp1, rp2⟩, ⟨wp1, wp2⟩, -⟩ := hT.2.1
  have pp := hT.pos
  have bT := hT.2.2.1
  have cb := hC.abs hT.2.1
  have ph := phi_lo (show 0 ≤ wk τ0 p by omega)
  have hs : gr τ0 p / wS (kl τ0 p) = G := by rw [hGp, Int.mul_ediv_cancel_left _ (by omega)]
  have GlP : G ≤ gr τ0 p := by
    rw [hGp]
    have := Int.mul_le_mul_of_nonneg_right hW (show 0 ≤ G by omega)
    omega
  have WlP : wS (kl τ0 p) ≤ gr τ0 p := by
    rw [hGp]
    have := Int.mul_le_mul_of_nonneg_left hG (show 0 ≤ wS (kl τ0 p) by omega)
    omega
  intro T
  induction T with
  | zero =>
    intro m i a q τ2 B hA h37 h35 h33 i0 hi hq hT0 hT1 hl
    have m0 : m = 0 := by
      rcases Nat.eq_zero_or_pos m with h | h
      · exact h
      · have := hT1 h
        have := (hq h).2.1
        omega
    subst m0
    refine ⟨_, rfl, Or.inl ⟨τ2, ?_, by rw [if_neg (by omega), List.append_nil]; exact hA⟩⟩
    rw [r_sequence_186, grd_t (by exact ⟨by omega, by omega⟩), grd_t (by exact ⟨by omega, by omega⟩), h37, grd_t (by exact ⟨by omega, by omega⟩), hA.t 64 _ (by decide), grd_t (by exact ⟨by omega, by omega⟩), if_pos (by omega)]
  | succ T ih =>
    intro m i a q τ2 B hA h37 h35 h33 i0 hi hq hT0 hT1 hl
    have mp : 0 < m := by
      rcases Nat.eq_zero_or_pos m with h | h
      · have := hT0 h; omega
      · exact h
    obtain ⟨q36, q1', q0'⟩ := hq mp
    have hTe := hT1 mp
    have hl := hl mp
    obtain ⟨⟨w1, w2⟩, ⟨o1, o2⟩, kd3, kd4, kd5⟩ := hk _ (kl_get i0 (show i < el τ0 64 p by omega))
    simp only at w1 w2 o1 o2 kd3 kd4 kd5
    obtain ⟨kt, kr⟩ := h.kn i0 (show i < el τ0 64 p by omega)
    obtain ⟨⟨kg1, kg2⟩, ⟨kc1, kc2⟩, -, ⟨kw1, kw2⟩, -⟩ := kr
    have pm := phi_mono kd5 wp2
    have cr0 : 0 ≤ crS τ0 (kidF τ0 (el τ0 65 p + i + 1) (m - 1)) := crS_nn _ (fun x hx => by
      obtain ⟨j, j0, j1, rfl⟩ := kidF_mem hx
      have e : el τ0 65 p + i + 1 + j = el τ0 65 p + (i + 1 + j) := by omega
      rw [e]
      have := (hk _ (kl_get (i := i + 1 + j) (by omega) (by omega))).2.1.1
      simp only at this
      exact ⟨by show 0 ≤ el τ0 57 (el τ0 65 p + (i + 1 + j)) / 32; omega, (h.kn (i := i + 1 + j) (by omega) (by omega)).2.2.1.1⟩)
    obtain ⟨Q, rfl⟩ : ∃ Q, q = Q + 1 := ⟨q - 1, by omega⟩
    have qe : ((Q + 1 : Nat) : Int) * cw τ0 (kd τ0 p i) = Q * cw τ0 (kd τ0 p i) + cw τ0 (kd τ0 p i) := by rw [Int.natCast_add, Int.add_mul]; omega
    rw [qe] at hl
    have qn : 0 ≤ (Q : Int) * cw τ0 (kd τ0 p i) := Int.mul_nonneg (by omega) kc1
    obtain ⟨τ1, κ, τ3, q1, q2, q3, q4, q5, q6, q7, q8, q9, q10, q11⟩ := hA.kid h (c' := c) i0 (by omega) (hC.same kw1 kd5 (by omega) (by omega)) (by rw [ab_len]; omega)
    rw [ab_len] at q5
    have gl := (row_good d (kd τ0 p i) c kt).1
    refine ⟨some (τ1, 1), ?_, Or.inr ⟨τ1, κ, τ3, _, rfl, q2, q3, q4, ?_⟩⟩
    · rw [r_sequence_186, grd_t (by exact ⟨by omega, by omega⟩), grd_t (by exact ⟨by omega, by omega⟩), h37, grd_t (by exact ⟨by omega, by omega⟩), hA.t 64 _ (by decide), grd_t (by exact ⟨by omega, by omega⟩), if_neg (by omega), q1, Option.bind_some]
    · -- back from the kid
      have dp := dv_pos kd3 kg1 hG
      have dm := dv_mul kd3
      obtain ⟨τ4, y1, y2, y3⟩ := NR.mvd h q4 (by rw [ab_len, ab_len]; omega) (el τ0 57 (el τ0 65 p + i) % 32 * (G / gr τ0 (kd τ0 p i))) (c * gr τ0 p + a * G - c * gr τ0 (kd τ0 p i) * (el τ0 57 (el τ0 65 p + i) % 32 * (G / gr τ0 (kd τ0 p i))))
      rw [ab_len] at y1
      rw [ab_mv (b' := a * G) (o' := c * gr τ0 p) _ (by omega), ← ab_app] at y2
      have e36 : el τ4 36 k = el τ2 36 k := by rw [y3 36 (by decide), q8]
      have e35 : el τ4 35 k = a := by rw [y3 35 (by decide), q9]; exact h35
      have e37 : el τ4 37 k = i := by rw [y3 37 (by decide)]; exact q7
      have e33 : el τ4 33 k = wS (kl τ0 p) := by rw [y3 33 (by decide), q11]; exact h33
      have rep1 : repL (rowL τ0 d (kd τ0 p i) c) (el τ0 57 (el τ0 65 p + i) % 32 * (G / gr τ0 (kd τ0 p i))) G (el τ0 57 (el τ0 65 p + i) % 32) (Q + 1) a = mv (el τ0 57 (el τ0 65 p + i) % 32 * (G / gr τ0 (kd τ0 p i))) (a * G) (rowL τ0 d (kd τ0 p i) c) ++ repL (rowL τ0 d (kd τ0 p i) c) (el τ0 57 (el τ0 65 p + i) % 32 * (G / gr τ0 (kd τ0 p i))) G (el τ0 57 (el τ0 65 p + i) % 32) Q (a + el τ0 57 (el τ0 65 p + i) % 32) := rfl
      have aq : a + ((Q + 1 : Nat) : Int) * (el τ0 57 (el τ0 65 p + i) % 32) = a + el τ0 57 (el τ0 65 p + i) % 32 + Q * (el τ0 57 (el τ0 65 p + i) % 32) := by rw [Int.natCast_add, Int.add_mul]; omega
      -- what the step is, up to the choice
      have head : ∀ R, (if el τ2 36 k + 1 = el τ0 57 (el τ0 65 p + i) / 32 then r_sequence_186 N (se (se (se (se τ4 35 k (a + el τ0 57 (el τ0 65 p + i) % 32)) 36 k (el τ2 36 k + 1)) 36 k 0) 37 k (i + 1)) k p c else r_sequence_186 N (se (se τ4 35 k (a + el τ0 57 (el τ0 65 p + i) % 32)) 36 k (el τ2 36 k + 1)) k p c) = R → r_sequence N τ3 k p c = R := by
        intro R hR
        rw [r_sequence, grd_t (by exact ⟨by omega, by omega⟩), q4.t 63 _ (by decide), show el τ0 63 p = gr τ0 p from rfl, grd_t (by exact ⟨by omega, by omega⟩), bnd, grd_t (by exact ⟨by omega, by omega⟩), q6, grd_t (by decide), if_neg (by decide), grd_t (by exact ⟨by omega, by omega⟩), show el τ3 33 k = wS (kl τ0 p) by rw [q11]; exact h33, grd_t (by exact ⟨by omega, by omega⟩), grd_t (by omega), bnd, td_pos (by omega), hs, q4.t 65 _ (by decide), q7, grd_t (by exact ⟨by omega, by omega⟩), q4.t 57 _ (by decide), grd_t (by exact ⟨by omega, by omega⟩), tm_pos (by omega), bnd, grd_t (by exact ⟨by omega, by omega⟩), q4.grn h q7 i0 (by omega), Option.bind_some, grd_t (by exact ⟨by omega, by omega⟩), grd_t (by exact ⟨by omega, by omega⟩), grd_t (by omega), bnd, td_pos (by omega), q4.grn h q7 i0 (by omega), Option.bind_some, q5, show el τ3 35 k = a by rw [q9]; exact h35]
        simp only
        rw [y1, Option.bind_some, y2.t 65 _ (by decide), e37, grd_t (by exact ⟨by omega, by omega⟩), y2.t 57 _ (by decide), grd_t (by exact ⟨by omega, by omega⟩), e36, grd_t (by exact ⟨by omega, by omega⟩), td_pos (by omega), grd_t (by exact ⟨by omega, by omega⟩), e35]
        exact hR
      obtain ⟨-, st⟩ := r_step_k h q4
      have ss := st (r_sequence N τ3 k p c) (Or.inl ⟨hK, rfl⟩)
      have fin : ∀ (T' : Nat) (L : List Evt) (R : Option (St × Int)), T' ≤ T → r_sequence N τ3 k p c = R → ((∃ τ3, R = some (τ3, 0) ∧ NR τ0 τ k p c (fl τ 84 0) L τ3) ∨ (∃ τ1 κ τ3 M, R = some (τ1, 1) ∧ κ ≤ sbd d ∧ Rnd N κ τ1 τ3 ∧ NR τ0 τ k p c (fl τ 84 0) M τ3 ∧ GO N τ k (fl τ 84 0) L τ3 (1 + T' * (sbd d + 1)))) → GO N τ k (fl τ 84 0) L τ3 (1 + (T + 1) * (sbd d + 1)) := by
        intro T' L R hT' hR r2
        rw [hR] at ss
        have mm : T' * (sbd d + 1) ≤ T * (sbd d + 1) := Nat.mul_le_mul_right _ hT'
        have ms : (T + 1) * (sbd d + 1) = T * (sbd d + 1) + (sbd d + 1) := Nat.succ_mul _ _
        rcases r2 with ⟨τ6, x1, x2⟩ | ⟨τ6, κ2, τ7, M, x1, x2, x3, x4, x5⟩
        · rw [x1, fin0] at ss
          exact (GO.done h q4 ss x2).wk (by omega)
        · rw [x1, fin1] at ss
          exact (GO.call h q4 ss x3 x2 x5).wk (by omega)
      rw [if_pos mp, rep1, aq]
      by_cases cQ : Q = 0
      · -- the next kid
        subst cQ
        obtain ⟨m', rfl⟩ : ∃ m', m = m' + 1 := ⟨m - 1, by omega⟩
        rw [Nat.add_sub_cancel] at hTe hl cr0 ⊢
        have z1 := (((y2.se (a := 35) (by decide) (a + el τ0 57 (el τ0 65 p + i) % 32)).se (a := 36) (by decide) (el τ2 36 k + 1)).se (a := 36) (by decide) 0).se (a := 37) (by decide) (i + 1)
        have m'' : 0 < m' → nS (kidF τ0 (el τ0 65 p + i + 1) m') = (el τ0 57 (el τ0 65 p + (i + 1)) / 32).toNat + nS (kidF τ0 (el τ0 65 p + (i + 1) + 1) (m' - 1)) := fun hm' => by
          obtain ⟨m2, rfl⟩ : ∃ m2, m' = m2 + 1 := ⟨m' - 1, by omega⟩
          rw [kidF_drop, nS, Nat.add_sub_cancel, show el τ0 65 p + i + 1 = el τ0 65 p + (i + 1) by omega]
        have m3 : 0 < m' → crS τ0 (kidF τ0 (el τ0 65 p + i + 1) m') = el τ0 57 (el τ0 65 p + (i + 1)) / 32 * cw τ0 (kd τ0 p (i + 1)) + crS τ0 (kidF τ0 (el τ0 65 p + (i + 1) + 1) (m' - 1)) := fun hm' => by
          obtain ⟨m2, rfl⟩ : ∃ m2, m' = m2 + 1 := ⟨m' - 1, by omega⟩
          rw [kidF_drop, crS, Nat.add_sub_cancel, show el τ0 65 p + i + 1 = el τ0 65 p + (i + 1) by omega]
        have m4 : 0 < m' → 1 ≤ el τ0 57 (el τ0 65 p + (i + 1)) / 32 := fun hm' => by
          have := (hk _ (kl_get (i := i + 1) (by omega) (by omega))).2.1.1
          simp only at this
          exact this
        obtain ⟨R, r1, r2⟩ := ih m' (i + 1) (a + el τ0 57 (el τ0 65 p + i) % 32) (el τ0 57 (el τ0 65 p + (i + 1)) / 32).toNat _ _ z1 (el_ses _ _ _ _) (by rw [el_sen _ _ _ _ (by decide), el_sen _ _ _ _ (by decide), el_sen _ _ _ _ (by decide), el_ses]) (by rw [el_sen _ _ _ _ (by decide), el_sen _ _ _ _ (by decide), el_sen _ _ _ _ (by decide), el_sen _ _ _ _ (by decide)]; exact e33) (by omega) (by omega) (fun hm' => by
            have := m4 hm'
            rw [el_sen _ _ _ _ (by decide), el_ses]
            refine ⟨by omega, by omega, by omega⟩) (fun hm' => by
            subst hm'
            rw [kidF, nS] at hTe
            omega) (fun hm' => by rw [m'' hm'] at hTe; omega) (fun hm' => by
            have := m4 hm'
            rw [m3 hm'] at hl
            rw [List.length_append, mv_len, Int.toNat_of_nonneg (by omega)]
            omega)
        have hd := head R (by rw [if_pos (by omega)]; exact r1)
        have eL : B ++ (mv (el τ0 57 (el τ0 65 p + i) % 32 * (G / gr τ0 (kd τ0 p i))) (a * G) (rowL τ0 d (kd τ0 p i) c) ++ repL (rowL τ0 d (kd τ0 p i) c) (el τ0 57 (el τ0 65 p + i) % 32 * (G / gr τ0 (kd τ0 p i))) G (el τ0 57 (el τ0 65 p + i) % 32) 0 (a + el τ0 57 (el τ0 65 p + i) % 32) ++ seqL τ0 (fun x => rowL τ0 d x c) G (kidF τ0 (el τ0 65 p + i + 1) m') (a + el τ0 57 (el τ0 65 p + i) % 32 + ((0 : Nat) : Int) * (el τ0 57 (el τ0 65 p + i) % 32))) = B ++ mv (el τ0 57 (el τ0 65 p + i) % 32 * (G / gr τ0 (kd τ0 p i))) (a * G) (rowL τ0 d (kd τ0 p i) c) ++ (if 0 < m' then repL (rowL τ0 d (kd τ0 p (i + 1)) c) (el τ0 57 (el τ0 65 p + (i + 1)) % 32 * (G / gr τ0 (kd τ0 p (i + 1)))) G (el τ0 57 (el τ0 65 p + (i + 1)) % 32) (el τ0 57 (el τ0 65 p + (i + 1)) / 32).toNat (a + el τ0 57 (el τ0 65 p + i) % 32) ++ seqL τ0 (fun x => rowL τ0 d x c) G (kidF τ0 (el τ0 65 p + (i + 1) + 1) (m' - 1)) (a + el τ0 57 (el τ0 65 p + i) % 32 + (el τ0 57 (el τ0 65 p + (i + 1)) / 32).toNat * (el τ0 57 (el τ0 65 p + (i + 1)) % 32)) else []) := by
          rw [repL, List.append_nil, List.append_assoc, show a + el τ0 57 (el τ0 65 p + i) % 32 + ((0 : Nat) : Int) * (el τ0 57 (el τ0 65 p + i) % 32) = a + el τ0 57 (el τ0 65 p + i) % 32 by omega]
          congr 2
          rcases Nat.eq_zero_or_pos m' with hm' | hm'
          · subst hm'
            rw [if_neg (by omega)]; rfl
          · rw [if_pos hm']
            have := m4 hm'
            obtain ⟨m2, rfl⟩ : ∃ m2, m' = m2 + 1 := ⟨m' - 1, by omega⟩
            rw [kidF_drop, seqL, Nat.add_sub_cancel, show el τ0 65 p + i + 1 = el τ0 65 p + (i + 1) by omega]
            simp only
            rw [Int.toNat_of_nonneg (by omega), Int.mul_comm (el τ0 57 (el τ0 65 p + (i + 1)) / 32)]
        rw [eL]
        exact fin T _ R (Nat.le_refl _) hd r2
      · have z1 := (y2.se (a := 35) (by decide) (a + el τ0 57 (el τ0 65 p + i) % 32)).se (a := 36) (by decide) (el τ2 36 k + 1)
        obtain ⟨R, r1, r2⟩ := ih m i (a + el τ0 57 (el τ0 65 p + i) % 32) Q _ _ z1 (by rw [el_sen _ _ _ _ (by decide), el_sen _ _ _ _ (by decide)]; exact e37) (by rw [el_sen _ _ _ _ (by decide), el_ses]) (by rw [el_sen _ _ _ _ (by decide), el_sen _ _ _ _ (by decide)]; exact e33) i0 hi (fun _ => ⟨by rw [el_ses]; omega, by omega, by rw [el_ses]; omega⟩) (fun h0 => by omega) (fun _ => by omega) (fun _ => by rw [List.length_append, mv_len]; omega)
        have hd := head R (by rw [if_neg (by omega)]; exact r1)
        rw [if_pos mp] at r2
        rw [show B ++ (mv (el τ0 57 (el τ0 65 p + i) % 32 * (G / gr τ0 (kd τ0 p i))) (a * G) (rowL τ0 d (kd τ0 p i) c) ++ repL (rowL τ0 d (kd τ0 p i) c) (el τ0 57 (el τ0 65 p + i) % 32 * (G / gr τ0 (kd τ0 p i))) G (el τ0 57 (el τ0 65 p + i) % 32) Q (a + el τ0 57 (el τ0 65 p + i) % 32) ++ seqL τ0 (fun x => rowL τ0 d x c) G (kidF τ0 (el τ0 65 p + i + 1) (m - 1)) (a + el τ0 57 (el τ0 65 p + i) % 32 + Q * (el τ0 57 (el τ0 65 p + i) % 32))) = B ++ mv (el τ0 57 (el τ0 65 p + i) % 32 * (G / gr τ0 (kd τ0 p i))) (a * G) (rowL τ0 d (kd τ0 p i) c) ++ (repL (rowL τ0 d (kd τ0 p i) c) (el τ0 57 (el τ0 65 p + i) % 32 * (G / gr τ0 (kd τ0 p i))) G (el τ0 57 (el τ0 65 p + i) % 32) Q (a + el τ0 57 (el τ0 65 p + i) % 32) ++ seqL τ0 (fun x => rowL τ0 d x c) G (kidF τ0 (el τ0 65 p + i + 1) (m - 1)) (a + el τ0 57 (el τ0 65 p + i) % 32 + Q * (el τ0 57 (el τ0 65 p + i) % 32))) by simp only [List.append_assoc]]
        exact fin T _ R (Nat.le_refl _) hd r2
end RQ1
