/-! rows of the class: sequences to their end, spreads, polymeters, layers -/
section CK4
variable {N : Nat} {π : Sh} {τ : St} {d : Nat} {σ : St} {r p c : Int}
theorem ck_seq (h : PH N π τ d σ r p c) (hN : 210001 ≤ N) (hK : el τ 70 p = 4) (hn : NK4 τ p) : HK σ (rowK τ (rowL τ d) p c) (Rw_sequence N (Rw_rowC N d) π σ r c) := by
  obtain ⟨n0, G, n1, n2, n3⟩ := hn
  obtain ⟨g1, g2⟩ := h.2.2.1.2.1.1
  have hp : ∀ k ∈ kl τ p, 1 ≤ k.2.1 ∧ 1 ≤ k.2.2 := fun k hk => ⟨(n3 k hk).1.1, (n3 k hk).2.1.1⟩
  obtain ⟨⟨a1, a2, a3, a4⟩, a5, a6, a7, a8, a9, a10⟩ := h.at (EF.rf 0 σ)
  have hW := a10.2.2.2.2.2.2 (Or.inl hK)
  have ea : fl σ 202 (fl σ 100 r) = wS (kl τ p) := by
    rw [a10.2.2.1 (by omega) (by omega) (by omega), if_neg (by omega), if_pos (by omega)]
  obtain ⟨w0, w1⟩ := wS_pos hp
  have kne : 0 < (kl τ p).length := by show 0 < (kidF _ _ _).length; rw [kidF_len]; omega
  have wp : 1 ≤ wS (kl τ p) := by
    have k1 := hp _ (List.getElem_mem kne)
    have k2 := w1 _ (List.getElem_mem kne)
    omega
  have hG : 1 ≤ G := by
    rcases Int.lt_or_le 0 G with h | h
    · omega
    · have := Int.mul_le_mul_of_nonneg_left h w0
      omega
  have wl : wS (kl τ p) ≤ wS (kl τ p) * G := by
    have := Int.mul_le_mul_of_nonneg_left hG w0
    omega
  have gl : G ≤ wS (kl τ p) * G := by
    have := Int.mul_le_mul_of_nonneg_right wp (show 0 ≤ G by omega)
    omega
  have hs : gr τ p / wS (kl τ p) = G := by rw [n1, Int.mul_ediv_cancel_left _ (by omega)]
  have bT := h.2.2.1.2.2.1
  have tn : ((el τ 64 p).toNat : Int) = el τ 64 p := Int.toNat_of_nonneg (by omega)
  obtain ⟨σ', z1, z2⟩ := ck_seq_lp h (G := G) ⟨hG, by omega⟩ hW n1 n3 (el τ 64 p).toNat N 0 0 σ [] (by omega) (AC.rf σ) (Int.le_refl _) (by omega) (by
    rw [Int.add_zero]
    have : crS τ (kidF τ (el τ 65 p) (el τ 64 p).toNat) ≤ cw τ p := n2
    simp only [List.length_nil]
    omega) (Int.le_refl _) (by
    rw [Int.add_zero, Int.zero_add]
    have : wS (kidF τ (el τ 65 p) (el τ 64 p).toNat) * G = gr τ p := n1.symm
    omega)
  rw [List.nil_append, Int.add_zero] at z2
  have e : Rw_sequence N (Rw_rowC N d) π σ r c = some σ' := by
    rw [Rw_sequence, grd_t a1, grd_t a5, ea, grd_t (by exact ⟨by omega, by omega⟩), show max 1 (wS (kl τ p)) = wS (kl τ p) by omega, grd_t (by exact ⟨by omega, by omega⟩), a4, grd_t (by exact ⟨by omega, by omega⟩), grd_t (by exact ⟨by omega, by omega⟩), grd_t (by omega), bnd, td_pos (by omega), hs]
    exact z1
  have er : rowK τ (rowL τ d) p c = seqL τ (fun q => rowL τ d q c) G (kl τ p) 0 := by
    unfold rowK
    simp only [hK]
    rw [hs]
    rfl
  rw [e, er]
  exact AC.hk z2
/-- the first row of a spread, moved to its step at the end -/
theorem ck_eu146 {R : Sh → St → Int → Int → Option St} {x5 x8 x9 g : Int} (o1 : ob π x5 5) : ∀ (l : List Evt) (n : Nat) (σ1 : St) (i : Int), l.length < n → At (CE σ1) i l → fl σ1 102 x5 = g → 0 ≤ i → i + l.length = x8 → x8 ≤ 6000 → ∃ σ2, Rw_euclid_146 N R π n σ1 x5 x8 x9 i = some σ2 ∧ EF i σ1 σ2 ∧ fl σ2 46 10 = fl σ1 46 10 ∧ At (CE σ2) i (mv 1 (x9 * g) l) ∧ ∀ a j, x8 ≤ j → el σ2 a j = el σ1 a j
  | [], n + 1, σ1, i, _, _, _, h0, h1, h2 => by
    simp only [List.length_nil] at h1
    refine ⟨σ1, ?_, EF.rf _ _, rfl, trivial, fun _ _ _ => rfl⟩
    rw [Rw_euclid_146, grd_t (by exact ⟨by omega, by omega⟩), grd_t (by exact ⟨by omega, by omega⟩), if_neg (by omega)]
  | e :: l, n + 1, σ1, i, hn, ha, hg, h0, h1, h2 => by
    simp only [List.length_cons] at h1 hn
    obtain ⟨⟨e1, e2, e3⟩, ha⟩ := ha
    have f1 : EF i σ1 (se σ1 11 i (e.1 + x9 * g)) := EF.mk (fun _ _ _ => rfl) (fun a j ha => by rw [el_sen _ _ _ _ (by omega)]) (fun a j _ _ hj => by rw [el_se, if_neg (by omega)])
    obtain ⟨σ2, q1, q2, q3, q4, q5⟩ := ck_eu146 (R := R) (x5 := x5) (x8 := x8) (x9 := x9) (g := g) o1 l n (se σ1 11 i (e.1 + x9 * g)) (i + 1) (by omega) (CE.of (fun b j j1 j2 => by rw [el_se, if_neg (by omega)]) ha) hg (by omega) (by omega) h2
    refine ⟨σ2, ?_, f1.tr q2 (by omega), q3, ⟨?_, q4⟩, fun a j hj => ?_⟩
    · rw [Rw_euclid_146, grd_t (by exact ⟨by omega, by omega⟩), grd_t (by exact ⟨by omega, by omega⟩), if_pos (by omega), grd_t (by exact ⟨by omega, by omega⟩), grd_t o1, e1, hg]
      exact q1
    · have : At (CE (se σ1 11 i (e.1 + x9 * g))) i [(e.1 * 1 + x9 * g, e.2.1 * 1, e.2.2)] := ⟨by
        unfold CE
        simp only [el_se, Int.mul_one]
        exact ⟨rfl, e2, e3⟩, trivial⟩
      exact (q2.at this (by simp)).1
    · rw [q5 a j hj, el_se, if_neg (by omega)]
theorem sprN_nn {a n t : Int} : ∀ (m : Nat) (k : Int), 0 ≤ sprN a n t m k
  | 0, _ => Int.le_refl _
  | m + 1, k => by
    have := sprN_nn (a := a) (n := n) (t := t) m (k + 1)
    rw [sprN]
    split <;> omega
/-- one step of a spread -/
theorem ck_eu_step (h : PH N π τ d σ r p c) (hn : NK8 τ p) (hK : el τ 70 p = 8) {rec46 : Nat → St → Int → Int → Int → Int → Int → Int → Int → Int → Option St} {m0 x7 x8 x9 k : Int} {σ1 : St} (hE : EF m0 σ σ1) (hk : 0 ≤ k ∧ k < el τ 68 p) (h9 : i64 x9) (n : Nat) : Rw_euclid_46 N (Rw_rowC N d) π (n + 1) σ1 c (fl σ 100 r) (el σ (fl σ 101 r) 0) (el τ 68 p) x7 x8 x9 k = if (k + el τ 67 p) % el τ 68 p * el τ 69 p % el τ 68 p < el τ 69 p then (if x9 < 0 then Option.bind (Rw_rowC N d π σ1 (el σ (fl σ 101 r) 0) c) (fun r27 => Rw_euclid_46 N (Rw_rowC N d) π n r27 c (fl σ 100 r) (el σ (fl σ 101 r) 0) (el τ 68 p) x7 (fl r27 46 10) k (k + 1)) else Option.bind (Es_pushAgain N π σ1 x7 x8 1 (k * gr τ (kd τ p 0))) (fun r23 => Rw_euclid_46 N (Rw_rowC N d) π n r23 c (fl σ 100 r) (el σ (fl σ 101 r) 0) (el τ 68 p) x7 x8 x9 (k + 1))) else Rw_euclid_46 N (Rw_rowC N d) π n σ1 c (fl σ 100 r) (el σ (fl σ 101 r) 0) (el τ 68 p) x7 x8 x9 (k + 1) := by
  obtain ⟨n1, ⟨n2, n2'⟩, ⟨n3, n3'⟩, ⟨n4, n4'⟩, -⟩ := hn
  obtain ⟨⟨a1, a2, a3, a4⟩, a5, a6, a7, a8, a9, a10⟩ := h.at hE
  obtain ⟨c1, c2, c3, c4⟩ := a8 0 (by omega) (by omega)
  have ea : fl σ1 202 (fl σ 100 r) = el τ 69 p := by
    rw [a9 202 (by omega), a10.2.2.1 (by omega) (by omega) (by omega), if_neg (by omega), if_neg (by omega)]
  have ec : fl σ1 204 (fl σ 100 r) = el τ 67 p := by
    rw [a9 204 (by omega), a10.2.2.2.2.1 (Or.inl hK)]
  have m0 := Int.emod_nonneg (k + el τ 67 p) (show el τ 68 p ≠ 0 by omega)
  have m1 := Int.emod_lt_of_pos (k + el τ 67 p) (show 0 < el τ 68 p by omega)
  have u0 := Int.mul_nonneg m0 n2
  have u1 : (k + el τ 67 p) % el τ 68 p * el τ 69 p ≤ 32 * el τ 69 p := Int.mul_le_mul_of_nonneg_right (by omega) n2
  have v0 := Int.emod_nonneg ((k + el τ 67 p) % el τ 68 p * el τ 69 p) (show el τ 68 p ≠ 0 by omega)
  have v1 := Int.emod_lt_of_pos ((k + el τ 67 p) % el τ 68 p * el τ 69 p) (show 0 < el τ 68 p by omega)
  rw [Rw_euclid_46, grd_t (by exact ⟨by omega, by omega⟩), grd_t (by exact ⟨by omega, by omega⟩), if_pos hk.2, grd_t a5, ec, grd_t (by exact ⟨by omega, by omega⟩), grd_t (by omega), ea, tm_pos (x := k + el τ 67 p) (by omega), grd_t (by exact ⟨by omega, by omega⟩), tm_pos u0, grd_t (by exact ⟨by omega, by omega⟩), grd_t (by exact ⟨by omega, by omega⟩)]
  by_cases c1' : (k + el τ 67 p) % el τ 68 p * el τ 69 p % el τ 68 p < el τ 69 p
  · rw [if_pos c1', if_pos c1', grd_t h9]
    by_cases c2' : x9 < 0
    · rw [if_pos c2', if_pos c2']
      rfl
    · rw [if_neg c2', if_neg c2', grd_t c2, c3]
      rfl
  · rw [if_neg c1', if_neg c1']
    rfl
theorem ck_eu_b (h : PH N π τ d σ r p c) (hn : NK8 τ p) (hK : el τ 70 p = 8) {f : Int} (hf : 0 ≤ f ∧ f ≤ 32) : ∀ (m n : Nat) (k : Int) (σ1 : St) (B : List Evt), m < n → AC σ (fl σ 46 10) (rowL τ d (kd τ p 0) c ++ B) σ1 → 0 ≤ k → k + m = el τ 68 p → (rowL τ d (kd τ p 0) c ++ B).length + sprN (el τ 69 p) (el τ 68 p) (el τ 67 p) m k * (rowL τ d (kd τ p 0) c).length ≤ cw τ p → ∃ σ', Rw_euclid_46 N (Rw_rowC N d) π n σ1 c (fl σ 100 r) (el σ (fl σ 101 r) 0) (el τ 68 p) (fl σ 46 10) (fl σ 46 10 + (rowL τ d (kd τ p 0) c).length) f k = some σ' ∧ AC σ (fl σ 46 10) (mv 1 (f * gr τ (kd τ p 0)) (rowL τ d (kd τ p 0) c) ++ B ++ sprL (rowL τ d (kd τ p 0) c) (el τ 69 p) (el τ 68 p) (el τ 67 p) (gr τ (kd τ p 0)) m k) σ'
  | 0, n + 1, k, σ1, B, _, hA, k0, hk, hl => by
    obtain ⟨-, -, -, -, -, -, t0, t1, hN, -⟩ := id h
    obtain ⟨n1, ⟨n2, n2'⟩, ⟨n3, n3'⟩, ⟨n4, n4'⟩, -⟩ := id hn
    obtain ⟨aE, aT, aA⟩ := id hA
    obtain ⟨⟨a1, a2, a3, a4⟩, a5, a6, a7, a8, a9, a10⟩ := h.at aE
    obtain ⟨c1, c2, c3, c4⟩ := a8 0 (by omega) (by omega)
    have ph := phi_lo (show 0 ≤ wk τ p by have := h.2.2.1.2.1.2.2.2.1.1; omega)
    rw [List.length_append] at hl aT
    rw [sprN, Int.zero_mul] at hl
    obtain ⟨σ2, q1, q2, q3, q4, q5⟩ := ck_eu146 (N := N) (π := π) (R := Rw_rowC N d) (x5 := el σ (fl σ 101 r) 0) (x8 := fl σ 46 10 + (rowL τ d (kd τ p 0) c).length) (x9 := f) c2 (rowL τ d (kd τ p 0) c) N σ1 (fl σ 46 10) (by omega) aA.l c3 t0 rfl (by omega)
    refine ⟨σ2, ?_, aE.tr q2 (Int.le_refl _), ?_, ?_⟩
    · rw [Rw_euclid_46, grd_t (by exact ⟨by omega, by omega⟩), grd_t (by exact ⟨by omega, by omega⟩), if_neg (by omega)]
      exact q1
    · rw [q3, aT, sprL, List.append_nil, List.length_append, mv_len]
    · rw [sprL, List.append_nil]
      refine At.app q4 (CE.of (fun b j j1 j2 => q5 b j (by rw [mv_len] at j1; exact j1)) ?_)
      rw [mv_len]
      exact aA.rt
  | m + 1, n + 1, k, σ1, B, hmn, hA, k0, hk, hl => by
    obtain ⟨-, -, -, -, -, -, t0, t1, hN, -⟩ := id h
    obtain ⟨aE, aT, aA⟩ := id hA
    have st := ck_eu_step (rec46 := fun _ _ _ _ _ _ _ _ _ _ => none) h hn hK (x7 := fl σ 46 10) (x8 := fl σ 46 10 + (rowL τ d (kd τ p 0) c).length) (x9 := f) aE ⟨k0, by omega⟩ ⟨by omega, by omega⟩ n
    rw [sprN, Int.add_mul] at hl
    have sn := sprN_nn (a := el τ 69 p) (n := el τ 68 p) (t := el τ 67 p) m (k + 1)
    have snl := Int.mul_nonneg sn (show (0 : Int) ≤ (rowL τ d (kd τ p 0) c).length by omega)
    by_cases cc : (k + el τ 67 p) % el τ 68 p * el τ 69 p % el τ 68 p < el τ 69 p
    · rw [if_pos cc] at st hl
      rw [if_neg (by omega)] at st
      rw [List.length_append] at hl aT
      have ph := phi_lo (show 0 ≤ wk τ p by have := h.2.2.1.2.1.2.2.2.1.1; omega)
      obtain ⟨σ2, p1, p2, p3, p4⟩ := c_pushAgain (N := N) (π := π) (k := 1) (b := k * gr τ (kd τ p 0)) (to := fl σ 46 10 + (rowL τ d (kd τ p 0) c).length) (rowL τ d (kd τ p 0) c) N σ1 (fl σ 46 10) (by omega) aA.l t0 rfl (by rw [aT]; omega) (by rw [aT]; omega)
      have hA2 := hA.add p2 (by rw [p3, mv_len]) p4
      rw [List.append_assoc] at hA2
      obtain ⟨σ', z1, z2⟩ := ck_eu_b h hn hK hf m n (k + 1) σ2 (B ++ mv 1 (k * gr τ (kd τ p 0)) (rowL τ d (kd τ p 0) c)) (by omega) hA2 (by omega) (by omega) (by simp only [List.length_append, mv_len]; omega)
      refine ⟨σ', ?_, ?_⟩
      · rw [st, Es_pushAgain, p1, Option.bind_some]
        exact z1
      · rw [sprL, if_pos cc]
        simp only [List.append_assoc] at z2 ⊢
        exact z2
    · rw [if_neg cc] at st hl
      obtain ⟨σ', z1, z2⟩ := ck_eu_b h hn hK hf m n (k + 1) σ1 B (by omega) hA (by omega) (by omega) (by omega)
      refine ⟨σ', by rw [st]; exact z1, ?_⟩
      rw [sprL, if_neg cc, List.nil_append]
      exact z2
theorem ck_eu_a (h : PH N π τ d σ r p c) (hn : NK8 τ p) (hK : el τ 70 p = 8) (ha : 1 ≤ el τ 69 p) : ∀ (m n : Nat) (k : Int), m < n → 0 ≤ k → k + m = el τ 68 p → sprN (el τ 69 p) (el τ 68 p) (el τ 67 p) m k * cw τ (kd τ p 0) ≤ cw τ p → ∃ σ', Rw_euclid_46 N (Rw_rowC N d) π n σ c (fl σ 100 r) (el σ (fl σ 101 r) 0) (el τ 68 p) (fl σ 46 10) (fl σ 46 10) (-1) k = some σ' ∧ AC σ (fl σ 46 10) (sprL (rowL τ d (kd τ p 0) c) (el τ 69 p) (el τ 68 p) (el τ 67 p) (gr τ (kd τ p 0)) m k) σ'
  | 0, n + 1, k, _, k0, hk, hl => by
    obtain ⟨-, -, -, -, -, -, t0, t1, hN, -⟩ := id h
    obtain ⟨n1, ⟨n2, n2'⟩, ⟨n3, n3'⟩, ⟨n4, n4'⟩, -⟩ := id hn
    obtain ⟨⟨a1, a2, a3, a4⟩, a5, a6, a7, a8, a9, a10⟩ := h.at (EF.rf 0 σ)
    obtain ⟨c1, c2, c3, c4⟩ := a8 0 (by omega) (by omega)
    have ph := phi_lo (show 0 ≤ wk τ p by have := h.2.2.1.2.1.2.2.2.1.1; omega)
    have cp := h.2.2.1.2.1.2.1.1
    obtain ⟨σ2, q1, q2, q3, q4, q5⟩ := ck_eu146 (N := N) (π := π) (R := Rw_rowC N d) (x5 := el σ (fl σ 101 r) 0) (x8 := fl σ 46 10) (x9 := -1) c2 [] N σ (fl σ 46 10) (by simp; omega) trivial c3 t0 (by simp) (by omega)
    refine ⟨σ2, ?_, q2, by rw [q3, sprL]; simp, by rw [sprL]; trivial⟩
    rw [Rw_euclid_46, grd_t (by exact ⟨by omega, by omega⟩), grd_t (by exact ⟨by omega, by omega⟩), if_neg (by omega)]
    exact q1
  | m + 1, n + 1, k, hmn, k0, hk, hl => by
    obtain ⟨-, -, -, -, -, -, t0, t1, hN, -⟩ := id h
    obtain ⟨n1, ⟨n2, n2'⟩, ⟨n3, n3'⟩, ⟨n4, n4'⟩, n5, n6, n7, n8⟩ := id hn
    obtain ⟨g1, g2⟩ := h.2.2.1.2.1.1
    have st := ck_eu_step (rec46 := fun _ _ _ _ _ _ _ _ _ _ => none) h hn hK (x7 := fl σ 46 10) (x8 := fl σ 46 10) (x9 := -1) (EF.rf 0 σ) ⟨k0, by omega⟩ ⟨by omega, by omega⟩ n
    obtain ⟨⟨kg1, kg2⟩, ⟨kc1, kc2⟩, -, ⟨kw1, kw2⟩, -⟩ := (h.kn (i := 0) (by omega) (by omega)).2
    rw [sprN, Int.add_mul] at hl
    have sn := sprN_nn (a := el τ 69 p) (n := el τ 68 p) (t := el τ 67 p) m (k + 1)
    have snl := Int.mul_nonneg sn kc1
    by_cases cc : (k + el τ 67 p) % el τ 68 p * el τ 69 p % el τ 68 p < el τ 69 p
    · rw [if_pos cc] at st hl
      rw [if_pos (by omega)] at st
      have gle : gr τ (kd τ p 0) ≤ gr τ p := by
        rw [n5]
        have := Int.mul_le_mul_of_nonneg_right n3 (show 0 ≤ gr τ (kd τ p 0) by omega)
        omega
      have kc : CB τ d (kd τ p 0) c := h.2.2.2.1.same kw1 (n8.2 ha) (by omega) (by omega)
      have pm := phi_mono (n8.2 ha) h.2.2.1.2.1.2.2.2.1.2
      obtain ⟨σ2, q1, q2, q3, q4⟩ := h.kid (EF.rf 0 σ) (i := 0) (c' := c) (by omega) (by omega) kc t0 (by omega)
      have gl := (row_good d (kd τ p 0) c (h.kn (i := 0) (by omega) (by omega)).1).1
      have hA2 := (AC.rf σ).add q2 q3 q4
      have lm : sprN (el τ 69 p) (el τ 68 p) (el τ 67 p) m (k + 1) * (rowL τ d (kd τ p 0) c).length ≤ sprN (el τ 69 p) (el τ 68 p) (el τ 67 p) m (k + 1) * cw τ (kd τ p 0) := Int.mul_le_mul_of_nonneg_left gl sn
      rw [List.nil_append] at hA2
      obtain ⟨σ', z1, z2⟩ := ck_eu_b h hn hK (f := k) ⟨k0, by omega⟩ m n (k + 1) σ2 [] (by omega) (by rw [List.append_nil]; exact hA2) (by omega) (by omega) (by rw [List.append_nil]; omega)
      refine ⟨σ', ?_, ?_⟩
      · rw [st, q1, Option.bind_some, q3]
        exact z1
      · rw [sprL, if_pos cc]
        rw [List.append_nil] at z2
        exact z2
    · rw [if_neg cc] at st hl
      obtain ⟨σ', z1, z2⟩ := ck_eu_a h hn hK ha m n (k + 1) (by omega) (by omega) (by omega) (by omega)
      refine ⟨σ', by rw [st]; exact z1, ?_⟩
      rw [sprL, if_neg cc, List.nil_append]
      exact z2
theorem ck_euclid (h : PH N π τ d σ r p c) (hK : el τ 70 p = 8) (hn : NK8 τ p) (ha : 1 ≤ el τ 69 p) : HK σ (rowK τ (rowL τ d) p c) (Rw_euclid N (Rw_rowC N d) π σ r c) := by
  obtain ⟨n1, ⟨n2, n2'⟩, ⟨n3, n3'⟩, ⟨n4, n4'⟩, n5, n6, n7, n8⟩ := id hn
  obtain ⟨-, -, -, -, -, -, t0, t1, hN, -⟩ := id h
  obtain ⟨⟨a1, a2, a3, a4⟩, a5, a6, a7, a8, a9, a10⟩ := h.at (EF.rf 0 σ)
  have eb : fl σ 203 (fl σ 100 r) = el τ 68 p := by
    rw [a10.2.2.2.1 (by omega), if_neg (by omega), if_neg (by omega)]
  have tn : ((el τ 68 p).toNat : Int) = el τ 68 p := Int.toNat_of_nonneg (by omega)
  obtain ⟨σ', z1, z2⟩ := ck_eu_a h hn hK ha (el τ 68 p).toNat N 0 (by omega) (Int.le_refl _) (by omega) (by rw [sprN_n n3 n2 n2']; exact n6)
  have e : Rw_euclid N (Rw_rowC N d) π σ r c = some σ' := by
    rw [Rw_euclid, grd_t a1, grd_t a6, grd_t (by exact ⟨by omega, by omega, by omega⟩), bnd, grd_t a5, eb, grd_t (by exact ⟨by omega, by omega⟩), bnd, show max 1 (el τ 68 p) = el τ 68 p by omega]
    exact z1
  have er : rowK τ (rowL τ d) p c = sprL (rowL τ d (kd τ p 0) c) (el τ 69 p) (el τ 68 p) (el τ 67 p) (gr τ (kd τ p 0)) (el τ 68 p).toNat 0 := by
    unfold rowK
    simp only [hK]
    rfl
  rw [e, er]
  exact AC.hk z2
end CK4
