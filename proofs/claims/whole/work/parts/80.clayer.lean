/-! rows of the class: polymeters, layers, windows, backwards, rotated, drawn, squeezed -/
section CK5
variable {N : Nat} {π : Sh} {τ : St} {d : Nat} {σ : St} {r p c : Int}
theorem kl_get {τ : St} {p i : Int} (h0 : 0 ≤ i) (h1 : i < el τ 64 p) : (kd τ p i, el τ 57 (el τ 65 p + i) % 32, el τ 57 (el τ 65 p + i) / 32) ∈ kl τ p := by
  have := kidF_get (τ := τ) (el τ 64 p).toNat (el τ 65 p) i.toNat (by rw [kidF_len]; omega)
  rw [show ((i.toNat : Nat) : Int) = i by omega] at this
  rw [← this]
  exact List.getElem_mem _
/-- a kid's row, stretched and moved, behind what is there -/
theorem PH.kidadd (h : PH N π τ d σ r p c) {σ1 : St} {i c' k b : Int} {A : List Evt} (hA : AC σ (fl σ 46 10) A σ1) (h0 : 0 ≤ i) (h1 : i < el τ 64 p) (hc : CB τ d (kd τ p i) c') (hl : (A.length : Int) + cw τ (kd τ p i) ≤ cw τ p) (hw : wk τ (kd τ p i) ≤ wk τ p) (hk : i64 k) (hb : i64 b) : ∃ σ2 σ3, Rw_rowC N d π σ1 (el σ (fl σ 101 r) i) c' = some σ2 ∧ EF (fl σ 46 10) σ σ2 ∧ Es_scale N π σ2 (fl σ1 46 10) k b = some σ3 ∧ AC σ (fl σ 46 10) (A ++ mv k b (rowL τ d (kd τ p i) c')) σ3 := by
  obtain ⟨-, -, -, -, -, -, t0, t1, hN, -⟩ := id h
  have w := h.2.2.1.2.1.2.2.2.1
  have pm := phi_mono hw w.2
  obtain ⟨aE, aT, aA⟩ := id hA
  obtain ⟨σ2, σ3, q1, q2, q3, q4, q5, q6⟩ := h.kidmv aE h0 h1 hc (by omega) (by omega) (k := k) (b := b) hk hb
  exact ⟨σ2, σ3, q1, aE.tr q2 (by omega), q3, hA.add q4 q5 q6⟩
theorem ck_poly_lp (h : PH N π τ d σ r p c) (hN2 : 210001 ≤ N) {G : Int} (hK : el τ 70 p = 7) (hn : NK7 τ p) (hG : 1 ≤ G) (hGp : gr τ p = el τ 69 p * G) (hkd : ∀ k ∈ kl τ p, gr τ k.1 ∣ G) (hC : ∀ k ∈ kl τ p, el τ 69 p * cw τ k.1 ≤ cw τ p) : ∀ (m n : Nat) (k : Int) (σ1 : St) (A : List Evt), m < n → AC σ (fl σ 46 10) A σ1 → 0 ≤ k → k + m = el τ 69 p → (A.length : Int) ≤ k * (cw τ p / el τ 69 p) → ∃ σ', Rw_poly_40 N (Rw_rowC N d) π n σ1 r c (wS (kl τ p)) (el τ 69 p) G k = some σ' ∧ AC σ (fl σ 46 10) (A ++ polL τ (rowL τ d) (kl τ p) c (el τ 69 p) G m k) σ'
  | 0, n + 1, k, σ1, A, _, hA, k0, hk, _ => by
    obtain ⟨n0, n1, ⟨n2, n2'⟩, -⟩ := id hn
    refine ⟨σ1, ?_, by rw [polL, List.append_nil]; exact hA⟩
    rw [Rw_poly_40, grd_t (by exact ⟨by omega, by omega⟩), grd_t (by exact ⟨by omega, by omega⟩), if_neg (by omega)]
  | m + 1, n + 1, k, σ1, A, hmn, hA, k0, hk, hl => by
    obtain ⟨n0, n1, ⟨n2, n2'⟩, G', n3, n4⟩ := id hn
    obtain ⟨g1, g2⟩ := h.2.2.1.2.1.1
    have hp : ∀ k ∈ kl τ p, 1 ≤ k.2.1 ∧ 1 ≤ k.2.2 := fun k hk => ⟨(n4 k hk).1.1, (n4 k hk).2.1.1⟩
    have cb := h.2.2.2.1.abs h.2.2.1.2.1
    obtain ⟨aE, aT, aA⟩ := id hA
    obtain ⟨⟨a1, a2, a3, a4⟩, a5, a6, a7, a8, a9, a10⟩ := h.at aE
    have hW := a10.2.2.2.2.2.2 (Or.inr (Or.inr hK))
    obtain ⟨w0, w1⟩ := wS_pos hp
    have kne : 0 < (kl τ p).length := by show 0 < (kidF _ _ _).length; rw [kidF_len]; omega
    have wp : 1 ≤ wS (kl τ p) := by
      have k1 := hp _ (List.getElem_mem kne)
      have k2 := w1 _ (List.getElem_mem kne)
      omega
    have m0 := Int.emod_nonneg (c * el τ 69 p + k) (show wS (kl τ p) ≠ 0 by omega)
    have m1 := Int.emod_lt_of_pos (c * el τ 69 p + k) (show 0 < wS (kl τ p) by omega)
    have u5 : -6400000000000 ≤ c * el τ 69 p ∧ c * el τ 69 p ≤ 6400000000000 := by
      by_cases hc : 0 ≤ c
      · have a1 : c * el τ 69 p ≤ c * 32 := Int.mul_le_mul_of_nonneg_left n2' hc
        have := Int.mul_nonneg hc (show 0 ≤ el τ 69 p by omega)
        omega
      · have a1 : c * el τ 69 p ≤ 0 := Int.mul_nonpos_of_nonpos_of_nonneg (by omega) (by omega)
        have a2 : c * 32 ≤ c * el τ 69 p := Int.mul_le_mul_of_nonpos_left (by omega) n2'
        omega
    obtain ⟨i, i0, i1, i2, i3⟩ := c_partAt h aE hW n0 m0 ⟨by omega, by omega⟩ hp n1 hN2
    obtain ⟨kk, hkk, ek⟩ : ∃ k ∈ kl τ p, k.1 = kd τ p i := by
      obtain ⟨k', hk', e⟩ := katL_mem ((c * el τ 69 p + k) % wS (kl τ p)) (show kl τ p ≠ [] from fun e => by rw [e] at kne; simp at kne)
      exact ⟨k', hk', by rw [← e, i3]⟩
    have k3 := hkd kk hkk
    have k4 := hC kk hkk
    obtain ⟨-, -, -, -, k5, k6⟩ := n4 kk hkk
    rw [ek] at k3 k4 k5 k6
    have kn := (h.kn (i := i) i0 i1).2.1
    have kcw := (h.kn (i := i) i0 i1).2.2.1.1
    have dl1 := dv_le k3 hG
    have db : ∀ y : Int, -(if 0 ≤ y then y else -y) ≤ y / wS (kl τ p) ∧ y / wS (kl τ p) ≤ (if 0 ≤ y then y else -y) := by
      intro y
      split
      · have := Int.ediv_nonneg (show 0 ≤ y by assumption) w0
        have := Int.ediv_le_self (wS (kl τ p)) (show 0 ≤ y by assumption)
        omega
      · have h1 : y ≤ y / wS (kl τ p) := by
          rw [Int.le_ediv_iff_mul_le (by omega)]
          have := Int.mul_le_mul_of_nonpos_left (a := y) (by omega) wp
          omega
        have h2 : y / wS (kl τ p) ≤ 0 := by
          have := Int.ediv_neg_of_neg_of_pos (show y < 0 by omega) (show 0 < wS (kl τ p) by omega)
          omega
        omega
    have dbv := db (c * el τ 69 p + k)
    have kc : CB τ d (kd τ p i) ((c * el τ 69 p + k) / wS (kl τ p)) := h.2.2.2.1.kid (m := el τ 69 p) n2 (h.kn (i := i) i0 i1).2.2.2.2.1.1 k6 (fun X x0 x1 x2 => by
      have u1 : c * el τ 69 p ≤ X * el τ 69 p := Int.mul_le_mul_of_nonneg_right x2 (by omega)
      have u2 : -X * el τ 69 p ≤ c * el τ 69 p := Int.mul_le_mul_of_nonneg_right x1 (by omega)
      rw [Int.neg_mul] at u2
      have u3 : (X + 65) * el τ 69 p = X * el τ 69 p + 65 * el τ 69 p := Int.add_mul _ _ _
      have u4 : 0 ≤ X * el τ 69 p := Int.mul_nonneg x0 (by omega)
      split at dbv <;> omega)
    have dp := dv_pos k3 kn.1 hG
    have dl : G / gr τ (kd τ p i) ≤ G := Int.ediv_le_self _ (by omega)
    have Gl : G ≤ gr τ p := by
      rw [hGp]
      have := Int.mul_le_mul_of_nonneg_right n2 (show 0 ≤ G by omega)
      omega
    have kG : 0 ≤ k * G ∧ k * G ≤ 32 * G := ⟨Int.mul_nonneg k0 (by omega), Int.mul_le_mul_of_nonneg_right (by omega) (by omega)⟩
    have cq : cw τ (kd τ p i) ≤ cw τ p / el τ 69 p := by
      rw [Int.le_ediv_iff_mul_le (by omega), Int.mul_comm]
      exact k4
    have cq2 : (k + 1) * (cw τ p / el τ 69 p) ≤ cw τ p := by
      have a1 := Int.ediv_mul_le (cw τ p) (show el τ 69 p ≠ 0 by omega)
      have a2 : (k + 1) * (cw τ p / el τ 69 p) ≤ el τ 69 p * (cw τ p / el τ 69 p) := Int.mul_le_mul_of_nonneg_right (by omega) (by omega)
      rw [Int.mul_comm (el τ 69 p)] at a2
      omega
    have e6 : (k + 1) * (cw τ p / el τ 69 p) = k * (cw τ p / el τ 69 p) + cw τ p / el τ 69 p := by rw [Int.add_mul]; omega
    obtain ⟨σ2, σ3, q1, q2, q3, q4⟩ := h.kidadd hA i0 i1 kc (k := G / gr τ (kd τ p i)) (b := k * G) (by omega) (by
      have kw := (h.kn (i := i) i0 i1).2.2.2.2.1.1
      have := Int.mul_le_mul_of_nonneg_right n2 (show 0 ≤ wk τ (kd τ p i) by omega)
      omega) ⟨by omega, by omega⟩ ⟨by omega, by omega⟩
    have gl := (row_good d (kd τ p i) ((c * el τ 69 p + k) / wS (kl τ p)) (h.kn i0 i1).1).1
    obtain ⟨σ', z1, z2⟩ := ck_poly_lp h hN2 hK hn hG hGp hkd hC m n (k + 1) σ3 _ (by omega) q4 (by omega) (by omega) (by rw [List.length_append, mv_len]; omega)
    obtain ⟨⟨b1, b2, b3, b4⟩, b5, b6, b7, b8, b9, b10⟩ := h.at q2
    obtain ⟨c1, c2, c3, c4⟩ := b8 i i0 i1
    refine ⟨σ', ?_, ?_⟩
    · rw [Rw_poly_40, grd_t (by exact ⟨by omega, by omega⟩), grd_t (by exact ⟨by omega, by omega⟩), if_pos (by omega), bnd, c_fmod ⟨by omega, by omega⟩ ⟨by omega, by omega⟩ (by omega), Option.bind_some, i2, Option.bind_some, c_fdiv ⟨by omega, by omega⟩ ⟨by omega, by omega⟩ (by omega), Option.bind_some, q1, Option.bind_some, grd_t c2, grd_t (by exact ⟨by omega, by omega⟩), c3, grd_t (by exact ⟨by omega, by omega⟩), grd_t (by omega), td_pos (by omega), q3, Option.bind_some, bnd]
      exact z1
    · rw [polL, i3, ← List.append_assoc]
      exact z2
theorem ck_poly (h : PH N π τ d σ r p c) (hN2 : 210001 ≤ N) (hK : el τ 70 p = 7) (hn : NK7 τ p) : HK σ (rowK τ (rowL τ d) p c) (Rw_poly N (Rw_rowC N d) π σ r c) := by
  obtain ⟨n0, n1, ⟨n2, n2'⟩, G, n3, n4⟩ := id hn
  obtain ⟨-, -, -, -, -, -, t0, t1, hN, -⟩ := id h
  obtain ⟨g1, g2⟩ := h.2.2.1.2.1.1
  obtain ⟨⟨a1, a2, a3, a4⟩, a5, a6, a7, a8, a9, a10⟩ := h.at (EF.rf 0 σ)
  have ea : fl σ 202 (fl σ 100 r) = wS (kl τ p) := by
    rw [a10.2.2.1 (by omega) (by omega) (by omega), if_neg (by omega), if_pos (by omega)]
  have eb : fl σ 203 (fl σ 100 r) = el τ 69 p := by
    rw [a10.2.2.2.1 (by omega), if_pos (by omega)]
  have hp : ∀ k ∈ kl τ p, 1 ≤ k.2.1 ∧ 1 ≤ k.2.2 := fun k hk => ⟨(n4 k hk).1.1, (n4 k hk).2.1.1⟩
  obtain ⟨w0, w1⟩ := wS_pos hp
  have kne : 0 < (kl τ p).length := by show 0 < (kidF _ _ _).length; rw [kidF_len]; omega
  have wp : 1 ≤ wS (kl τ p) := by
    have k1 := hp _ (List.getElem_mem kne)
    have k2 := w1 _ (List.getElem_mem kne)
    omega
  have hG : 1 ≤ G := by
    rcases Int.lt_or_le 0 G with h | h
    · omega
    · have := Int.mul_le_mul_of_nonneg_left h (show 0 ≤ el τ 69 p by omega)
      omega
  have hs : gr τ p / el τ 69 p = G := by rw [n3, Int.mul_ediv_cancel_left _ (by omega)]
  have tn : ((el τ 69 p).toNat : Int) = el τ 69 p := Int.toNat_of_nonneg (by omega)
  obtain ⟨σ', z1, z2⟩ := ck_poly_lp h hN2 hK hn hG n3 (fun k hk => (n4 k hk).2.2.1) (fun k hk => (n4 k hk).2.2.2.1) (el τ 69 p).toNat N 0 σ [] (by omega) (AC.rf σ) (Int.le_refl _) (by omega) (by simp)
  rw [List.nil_append] at z2
  have e : Rw_poly N (Rw_rowC N d) π σ r c = some σ' := by
    rw [Rw_poly, grd_t a1, grd_t a5, ea, grd_t (by exact ⟨by omega, by omega⟩), show max 1 (wS (kl τ p)) = wS (kl τ p) by omega, grd_t (by exact ⟨by omega, by omega⟩), bnd, eb, grd_t (by exact ⟨by omega, by omega⟩), show max 1 (el τ 69 p) = el τ 69 p by omega, grd_t (by exact ⟨by omega, by omega⟩), bnd, a4, grd_t (by exact ⟨by omega, by omega⟩), grd_t (by exact ⟨by omega, by omega⟩), grd_t (by omega), bnd, td_pos (by omega), hs]
    exact z1
  have er : rowK τ (rowL τ d) p c = polL τ (rowL τ d) (kl τ p) c (el τ 69 p) G (el τ 69 p).toNat 0 := by
    unfold rowK
    simp only [hK]
    rw [hs]
    rfl
  rw [e, er]
  exact AC.hk z2
/-- the sort at the end -/
theorem AC.sort (h : PH N π τ d σ r p c) {σ1 : St} {A : List Evt} (hA : AC σ (fl σ 46 10) A σ1) (hl : (A.length : Int) ≤ cw τ p) {M : Int} (hg : Gu 0 (gr τ p) M A) : ∃ σ2, Es_sort N π σ1 (fl σ 46 10) = some σ2 ∧ AC σ (fl σ 46 10) (sortE A) σ2 := by
  obtain ⟨-, -, -, -, hY, -, t0, t1, hN, hS⟩ := id h
  obtain ⟨aE, aT, aA⟩ := id hA
  obtain ⟨⟨g1, g2⟩, ⟨c1, c2⟩, -, ⟨w1, w2⟩, -⟩ := h.2.2.1.2.1
  have ph := phi_lo (show 0 ≤ wk τ p by omega)
  obtain ⟨σ2, q1, q2, q3, q4⟩ := c_sort (N := N) (π := π) hN hS (aE.2.1 hY) aA t0 (by rw [aT]) (by rw [aT]; omega) (by omega) (fun e he => by
    have := (hg e he).1
    omega)
  exact ⟨σ2, q1, aE.tr q2 (Int.le_refl _), by rw [q3, aT]; show _ = _ + ((isoL ltE A).length : Int); rw [isoL_len], q4⟩
theorem crS_nn {τ : St} : ∀ (l : List Kid), (∀ k ∈ l, 0 ≤ k.2.2 ∧ 0 ≤ cw τ k.1) → 0 ≤ crS τ l
  | [], _ => Int.le_refl _
  | x :: l, hx => by
    have := crS_nn l (fun y hy => hx y (by simp [hy]))
    have := Int.mul_nonneg (hx x (by simp)).1 (hx x (by simp)).2
    rw [crS]; omega
theorem ck_layer_lp (h : PH N π τ d σ r p c) (hn : NK5 τ p) : ∀ (m n : Nat) (i : Int) (σ1 : St) (A : List Evt), m < n → AC σ (fl σ 46 10) A σ1 → 0 ≤ i → i + m = el τ 64 p → A.length + crS τ (kidF τ (el τ 65 p + i) m) ≤ cw τ p → Gu 0 (gr τ p) (rc τ p * gr τ p) A → ∃ σ', Rw_layer_12 N (Rw_rowC N d) π n σ1 r c (fl σ 46 10) i = some σ' ∧ AC σ (fl σ 46 10) (sortE (A ++ allL τ (fun q => rowL τ d q c) (gr τ p) (kidF τ (el τ 65 p + i) m))) σ'
  | 0, n + 1, i, σ1, A, _, hA, i0, hi, hl, hg => by
    obtain ⟨⟨a1, a2, a3, a4⟩, a5, a6, a7, a8, a9, a10⟩ := h.at hA.1
    have bT := h.2.2.1.2.2.1
    rw [kidF, crS] at hl
    obtain ⟨σ2, q1, q2⟩ := AC.sort h hA (by omega) hg
    refine ⟨σ2, ?_, by rw [kidF, allL, List.append_nil]; exact q2⟩
    rw [Rw_layer_12, grd_t a1, a3, grd_t a6, grd_t (by omega), grd_t (by exact ⟨by omega, by omega⟩), grd_t (by exact ⟨by omega, by omega⟩), if_neg (by omega), q1, Option.bind_some]
  | m + 1, n + 1, i, σ1, A, hmn, hA, i0, hi, hl, hg => by
    obtain ⟨-, -, -, -, -, -, t0, t1, hN, -⟩ := id h
    obtain ⟨g1, g2⟩ := h.2.2.1.2.1.1
    obtain ⟨⟨a1, a2, a3, a4⟩, a5, a6, a7, a8, a9, a10⟩ := h.at hA.1
    have bT := h.2.2.1.2.2.1
    obtain ⟨o1, kd3, kd4, kd5⟩ := hn.2 _ (kl_get i0 (show i < el τ 64 p by omega))
    simp only at o1 kd3 kd4 kd5
    obtain ⟨⟨kg1, kg2⟩, ⟨kcw1, kcw2⟩, -, ⟨kw1, kw2⟩, -⟩ := (h.kn i0 (show i < el τ 64 p by omega)).2
    have hl : (A.length : Int) + (el τ 57 (el τ 65 p + i) / 32 * cw τ (kd τ p i) + crS τ (kidF τ (el τ 65 p + i + 1) m)) ≤ cw τ p := hl
    rw [o1, Int.one_mul] at hl
    have cr0 : 0 ≤ crS τ (kidF τ (el τ 65 p + i + 1) m) := crS_nn _ (fun k hk' => by
      obtain ⟨j, j0, j1, rfl⟩ := kidF_mem hk'
      have e : el τ 65 p + i + 1 + j = el τ 65 p + (i + 1 + j) := by omega
      rw [e]
      have := (hn.2 _ (kl_get (i := i + 1 + j) (by omega) (by omega))).1
      simp only at this
      exact ⟨by show 0 ≤ el τ 57 (el τ 65 p + (i + 1 + j)) / 32; omega, (h.kn (i := i + 1 + j) (by omega) (by omega)).2.2.1.1⟩)
    have kc : CB τ d (kd τ p i) c := h.2.2.2.1.same kw1 kd5 (by omega) (by omega)
    have dp := dv_pos kd3 kg1 g1
    have dl : gr τ p / gr τ (kd τ p i) ≤ gr τ p := Int.ediv_le_self _ (by omega)
    obtain ⟨σ2, σ3, q1, q2, q3, q4⟩ := h.kidadd hA i0 (by omega) kc (k := gr τ p / gr τ (kd τ p i)) (b := 0) (by omega) kd5 ⟨by omega, by omega⟩ (by decide)
    have gd := row_good d (kd τ p i) c (h.kn i0 (by omega)).1
    have gl := gd.1
    obtain ⟨σ', z1, z2⟩ := ck_layer_lp h hn m n (i + 1) σ3 _ (by omega) q4 (by omega) (by omega) (by rw [List.length_append, mv_len, show el τ 65 p + (i + 1) = el τ 65 p + i + 1 by omega]; omega) (hg.app (gd.kid kg1 kd3 g1 kd4).1)
    obtain ⟨⟨b1, b2, b3, b4⟩, b5, b6, b7, b8, b9, b10⟩ := h.at q2
    obtain ⟨c1, c2, c3, c4⟩ := b8 i i0 (by omega)
    have d1 := (a8 i i0 (by omega)).1
    refine ⟨σ', ?_, ?_⟩
    · rw [Rw_layer_12, grd_t a1, a3, grd_t a6, grd_t (by omega), grd_t (by exact ⟨by omega, by omega⟩), grd_t (by exact ⟨by omega, by omega⟩), if_pos (by omega), grd_t (by exact ⟨by omega, by omega, by omega⟩), d1, q1, Option.bind_some, b3, grd_t b6, grd_t (by exact ⟨by omega, by omega, by omega⟩), c1, grd_t c2, b4, c3, grd_t (by exact ⟨by omega, by omega⟩), grd_t (by exact ⟨by omega, by omega⟩), grd_t (by omega), td_pos (by omega), q3, Option.bind_some]
      exact z1
    · rw [kidF_drop, allL, ← List.append_assoc]
      rw [show el τ 65 p + (i + 1) = el τ 65 p + i + 1 by omega] at z2
      exact z2
theorem ck_layer (h : PH N π τ d σ r p c) (hN2 : 210001 ≤ N) (hK : el τ 70 p = 5) (hn : NK5 τ p) : HK σ (rowK τ (rowL τ d) p c) (Rw_layer N (Rw_rowC N d) π σ r c) := by
  have bT := h.2.2.1.2.2.1
  have tn : ((el τ 64 p).toNat : Int) = el τ 64 p := Int.toNat_of_nonneg (by omega)
  obtain ⟨σ', z1, z2⟩ := ck_layer_lp h hn (el τ 64 p).toNat N 0 σ [] (by omega) (AC.rf σ) (Int.le_refl _) (by omega) (by
    rw [Int.add_zero]
    have : crS τ (kidF τ (el τ 65 p) (el τ 64 p).toNat) ≤ cw τ p := hn.1
    simp only [List.length_nil]
    omega) Gu.nil
  rw [List.nil_append, Int.add_zero] at z2
  have er : rowK τ (rowL τ d) p c = sortE (allL τ (fun q => rowL τ d q c) (gr τ p) (kl τ p)) := by
    unfold rowK
    simp only [hK]
    rfl
  rw [Rw_layer, z1, er]
  exact AC.hk z2
end CK5
