/-! rows of the class: plied -/
section CK8
variable {N : Nat} {π : Sh} {τ : St} {d : Nat} {σ : St} {r p c : Int}
theorem c_plyE {i nn G o : Int} {e : Evt} (hG : 0 ≤ G ∧ G ≤ 1000000) (hn : nn ≤ 1000) (he : 0 ≤ e.1 ∧ e.1 ≤ 1000000) (hl : 0 ≤ e.2.1 ∧ e.2.1 ≤ 1000000000) (ho : -1000000000000 ≤ o ∧ o ≤ 1000000000000) : ∀ (m n : Nat) (k : Int) (σ1 : St), m < n → 0 ≤ k → k + m = nn → CE σ1 i e → 0 ≤ i → i < fl σ1 46 10 → fl σ1 46 10 + m ≤ 6000 → ∃ σ2, Rw_plyOne_30 N π n σ1 i nn G e.2.1 (e.1 * nn + o + k * e.2.1) k = some σ2 ∧ EF (fl σ1 46 10) σ1 σ2 ∧ fl σ2 46 10 = fl σ1 46 10 + (plyE nn G o e m k).length ∧ At (CE σ2) (fl σ1 46 10) (plyE nn G o e m k)
  | 0, n + 1, k, σ1, _, k0, hk, _, _, _, _ => by
    refine ⟨σ1, ?_, EF.rf _ _, by simp [plyE], trivial⟩
    rw [Rw_plyOne_30, grd_t (by exact ⟨by omega, by omega⟩), grd_t (by exact ⟨by omega, by omega⟩), if_neg (by omega)]
  | m + 1, n + 1, k, σ1, hmn, k0, hk, hc, i0, i1, hr => by
    have b1 : 0 ≤ e.1 * nn ∧ e.1 * nn ≤ 1000000 * 1000 := ⟨Int.mul_nonneg he.1 (by omega), Int.mul_le_mul he.2 hn (by omega) (by omega)⟩
    have b2 : 0 ≤ k * e.2.1 ∧ k * e.2.1 ≤ 1000 * 1000000000 := ⟨Int.mul_nonneg k0 hl.1, Int.mul_le_mul (by omega) hl.2 hl.1 (by omega)⟩
    have e4 : e.1 * nn + o + (k + 1) * e.2.1 = e.1 * nn + o + k * e.2.1 + e.2.1 := by rw [Int.add_mul]; omega
    have st : Rw_plyOne_30 N π (n + 1) σ1 i nn G e.2.1 (e.1 * nn + o + k * e.2.1) k = if 0 ≤ e.1 * nn + o + k * e.2.1 ∧ e.1 * nn + o + k * e.2.1 < G then Option.bind (Es_push N π σ1 (e.1 * nn + o + k * e.2.1) e.2.1 (el σ1 13 i) (el σ1 14 i) (el σ1 15 i)) (fun r15 => Rw_plyOne_30 N π n r15 i nn G e.2.1 (e.1 * nn + o + (k + 1) * e.2.1) (k + 1)) else Rw_plyOne_30 N π n σ1 i nn G e.2.1 (e.1 * nn + o + (k + 1) * e.2.1) (k + 1) := by
      rw [Rw_plyOne_30, grd_t (by exact ⟨by omega, by omega⟩), grd_t (by exact ⟨by omega, by omega⟩), if_pos (by omega), grd_t (by exact ⟨by omega, by omega⟩), e4]
      by_cases c1 : e.1 * nn + o + k * e.2.1 < 0
      · rw [if_pos c1, if_neg (by omega)]; rfl
      · rw [if_neg c1, grd_t (by exact ⟨by omega, by omega⟩)]
        by_cases c2 : e.1 * nn + o + k * e.2.1 < G
        · rw [if_pos c2, if_pos ⟨by omega, c2⟩, grd_t (by exact ⟨by omega, by omega⟩)]; rfl
        · rw [if_neg c2, if_neg (by omega)]; rfl
    by_cases c1 : 0 ≤ e.1 * nn + o + k * e.2.1 ∧ e.1 * nn + o + k * e.2.1 < G
    · obtain ⟨σ2, p1, p2, p3, p4, p5, p6⟩ := c_push (N := N) (π := π) (σ := σ1) (x1 := e.1 * nn + o + k * e.2.1) (x3 := e.2.1) (by omega) (by omega) hc.2.2
      have hc2 : CE σ2 i e := (p2.at (show At (CE σ1) i [e] from ⟨hc, trivial⟩) (by simp; omega)).1
      obtain ⟨σ3, q1, q2, q3, q4⟩ := c_plyE hG hn he hl ho m n (k + 1) σ2 (by omega) (by omega) (by omega) hc2 i0 (by omega) (by omega)
      refine ⟨σ3, ?_, p2.tr q2 (by omega), ?_, ?_⟩
      · rw [st, if_pos c1, p1, Option.bind_some]; exact q1
      · rw [q3, p3, plyE, if_pos c1]; simp only [List.length_append, List.length_cons, List.length_nil]; omega
      · rw [plyE, if_pos c1]
        rw [p3] at q4 q2
        exact ⟨(q2.at (show At (CE σ2) (fl σ1 46 10) [(e.1 * nn + o + k * e.2.1, e.2.1, e.2.2)] from ⟨p4, trivial⟩) (by simp)).1, q4⟩
    · obtain ⟨σ3, q1, q2, q3, q4⟩ := c_plyE hG hn he hl ho m n (k + 1) σ1 (by omega) (by omega) (by omega) hc i0 i1 (by omega)
      refine ⟨σ3, by rw [st, if_neg c1]; exact q1, q2, ?_, ?_⟩
      · rw [q3, plyE, if_neg c1, List.nil_append]
      · rw [plyE, if_neg c1, List.nil_append]; exact q4
/-- one row, plied behind itself, then taken out -/
theorem ck_ply72 (h : PH N π τ d σ r p c) (hn : NK18 τ p) {rec35 : St → Int → Int → Int → Int → Int → Int → Option St} {x4 x6 j : Int} {A L : List Evt} (hj : -65 ≤ j - c ∧ j - c ≤ 0) (hL : Gu 0 (gr τ (kd τ p 0)) (rc τ (kd τ p 0) * gr τ (kd τ p 0)) L) (hr : fl σ 46 10 + A.length + L.length + el τ 69 p * L.length ≤ 6000) : ∀ (l : List Evt) (n : Nat) (σ1 : St) (K B : List Evt), l.length < n → L = K ++ l → AC σ (fl σ 46 10) (A ++ L ++ B) σ1 → (B.length : Int) ≤ el τ 69 p * K.length → ∃ σ2, Rw_ply_72 N (Rw_rowC N d) π rec35 n σ1 r c x4 (el τ 69 p) x6 j (fl σ 46 10 + A.length) (fl σ 46 10 + A.length + L.length) (fl σ 46 10 + A.length + K.length) = rec35 σ2 r c x4 (el τ 69 p) x6 (j + 1) ∧ AC σ (fl σ 46 10) (A ++ (B ++ plyR (el τ 69 p) (gr τ p) ((j - c) * gr τ p) l)) σ2
  | [], n + 1, σ1, K, B, _, hK, hA, hB => by
    obtain ⟨-, -, -, -, -, -, t0, t1, hN, -⟩ := id h
    obtain ⟨n1, ⟨n2, n2'⟩, -⟩ := id hn
    rw [List.append_nil] at hK
    subst hK
    obtain ⟨aE, aT, aA⟩ := id hA
    simp only [List.length_append] at aT
    have hBl : (B.length : Int) ≤ el τ 69 p * L.length := hB
    have c2 : At (CE σ1) (fl σ 46 10 + A.length + L.length) B := by
      have := aA.rt
      rw [List.length_append] at this
      rw [show fl σ 46 10 + (A.length : Int) + L.length = fl σ 46 10 + ((A.length + L.length : Nat) : Int) by omega]
      exact this
    obtain ⟨σ2, q1, q2, q3, q4, q5⟩ := c_remove (N := N) (π := π) (i := fl σ 46 10 + A.length) (to := fl σ 46 10 + A.length + L.length) hN (by omega) (by omega) c2 (by rw [aT]; omega) (by rw [aT]; omega)
    refine ⟨σ2, ?_, aE.tr q2 (by omega), ?_, ?_⟩
    · rw [Rw_ply_72, grd_t (by exact ⟨by omega, by omega⟩), grd_t (by exact ⟨by omega, by omega⟩), if_neg (by omega), q1, Option.bind_some, bnd]
    · rw [q4, plyR, List.append_nil, List.length_append]; omega
    · rw [plyR, List.append_nil]
      exact At.app (q2.at aA.l.l (by omega)) q5
  | e :: l, n + 1, σ1, K, B, hln, hK, hA, hB => by
    obtain ⟨-, -, -, -, -, -, t0, t1, hN, -⟩ := id h
    obtain ⟨n1, ⟨n2, n2'⟩, n3, -⟩ := id hn
    obtain ⟨g1, g2⟩ := h.2.2.1.2.1.1
    have k0 := (h.kn (i := 0) (by omega) (by omega)).2
    obtain ⟨kg0a, kg0b⟩ := k0.1
    obtain ⟨kr0a, kr0b⟩ := k0.2.2.1
    obtain ⟨aE, aT, aA⟩ := id hA
    have Ll : L.length = K.length + (l.length + 1) := by rw [hK, List.length_append, List.length_cons]
    simp only [List.length_append] at aT
    simp only [List.length_cons] at hln
    obtain ⟨⟨a1, a2, a3, a4⟩, -⟩ := h.at aE
    obtain ⟨⟨e1, e2⟩, ⟨e3, e4⟩, -⟩ := hL e (by rw [hK]; simp)
    have ce : CE σ1 (fl σ 46 10 + A.length + K.length) e := by
      have := aA.l.rt
      rw [hK] at this
      exact this.rt.1
    have rl : rc τ (kd τ p 0) * gr τ (kd τ p 0) ≤ 64 * gr τ (kd τ p 0) := Int.mul_le_mul_of_nonneg_right kr0b (by omega)
    have o1 : -65 * gr τ p ≤ (j - c) * gr τ p := Int.mul_le_mul_of_nonneg_right hj.1 (by omega)
    have o2 : (j - c) * gr τ p ≤ 0 * gr τ p := Int.mul_le_mul_of_nonneg_right hj.2 (by omega)
    have al : el τ 69 p * L.length = el τ 69 p * K.length + el τ 69 p + el τ 69 p * l.length := by
      rw [Ll]
      simp only [Int.natCast_add, Int.mul_add]
      omega
    have al0 : 0 ≤ el τ 69 p * (l.length : Int) := Int.mul_nonneg (by omega) (by omega)
    have al1 : 0 ≤ el τ 69 p * (K.length : Int) := Int.mul_nonneg (by omega) (by omega)
    have tn : ((el τ 69 p).toNat : Int) = el τ 69 p := Int.toNat_of_nonneg (by omega)
    obtain ⟨σ2, q1, q2, q3, q4⟩ := c_plyE (N := N) (π := π) (i := fl σ 46 10 + A.length + K.length) (nn := el τ 69 p) (G := gr τ p) (o := (j - c) * gr τ p) (e := e) ⟨by omega, g2⟩ (by omega) ⟨e1, by omega⟩ ⟨by omega, by omega⟩ ⟨by omega, by omega⟩ (el τ 69 p).toNat N 0 σ1 (by omega) (Int.le_refl _) (by omega) ce (by omega) (by omega) (by omega)
    have hA2 := hA.add q2 q3 q4
    rw [List.append_assoc] at hA2
    have pl : ((plyE (el τ 69 p) (gr τ p) ((j - c) * gr τ p) e (el τ 69 p).toNat 0).length : Int) ≤ el τ 69 p := by
      have : ∀ (m : Nat) (k : Int), (plyE (el τ 69 p) (gr τ p) ((j - c) * gr τ p) e m k).length ≤ m := by
        intro m
        induction m with
        | zero => intro k; exact Nat.le_refl _
        | succ m ih =>
          intro k
          have := ih (k + 1)
          rw [plyE, List.length_append]
          split <;> simp only [List.length_cons, List.length_nil] <;> omega
      have := this (el τ 69 p).toNat 0
      omega
    obtain ⟨σ3, z1, z2⟩ := ck_ply72 h hn (rec35 := rec35) (x4 := x4) (x6 := x6) hj hL hr l n σ2 (K ++ [e]) (B ++ plyE (el τ 69 p) (gr τ p) ((j - c) * gr τ p) e (el τ 69 p).toNat 0) (by omega) (by rw [hK, List.append_assoc]; rfl) hA2 (by
      simp only [List.length_append, List.length_cons, List.length_nil, Int.natCast_add, Int.mul_add]
      omega)
    refine ⟨σ3, ?_, ?_⟩
    · have pz : e.1 * el τ 69 p + (j - c) * gr τ p + 0 * e.2.1 = e.1 * el τ 69 p + (j - c) * gr τ p := by omega
      rw [pz] at q1
      rw [Rw_ply_72, grd_t (by exact ⟨by omega, by omega⟩), grd_t (by exact ⟨by omega, by omega⟩), if_pos (by omega), grd_t a1, a4, Rw_plyOne, grd_t (by exact ⟨by omega, by omega⟩), ce.1, ce.2.1, bnd, grd_t (by exact ⟨by omega, by omega⟩), bnd, q1, Option.bind_some]
      rw [show fl σ 46 10 + (A.length : Int) + ((K ++ [e]).length : Nat) = fl σ 46 10 + A.length + K.length + 1 by simp only [List.length_append, List.length_cons, List.length_nil]; omega] at z1
      exact z1
    · rw [plyR]
      simp only [List.append_assoc] at z2 ⊢
      exact z2
theorem ck_ply35 (h : PH N π τ d σ r p c) (hn : NK18 τ p) : ∀ (m n : Nat) (j : Int) (σ1 : St) (A : List Evt), m < n → AC σ (fl σ 46 10) A σ1 → c + 1 - j = m → -65 ≤ j - c → A.length + m * (el τ 69 p * cw τ (kd τ p 0)) ≤ cw τ p → Gu 0 (gr τ p) (rc τ p * gr τ p) A → ∃ σ', Rw_ply_35 N (Rw_rowC N d) π n σ1 r c (el σ (fl σ 101 r) 0) (el τ 69 p) (fl σ 46 10) j = some σ' ∧ AC σ (fl σ 46 10) (sortE (A ++ plyL (rowL τ d (kd τ p 0)) (el τ 69 p) (gr τ p) c m j)) σ'
  | 0, n + 1, j, σ1, A, _, hA, hm, hj, hl, hg => by
    have cb := h.2.2.2.1.abs h.2.2.1.2.1
    obtain ⟨σ2, q1, q2⟩ := AC.sort h hA (by omega) hg
    refine ⟨σ2, ?_, by rw [plyL, List.append_nil]; exact q2⟩
    rw [Rw_ply_35, grd_t (by exact ⟨by omega, by omega⟩), grd_t (by exact ⟨by omega, by omega⟩), if_pos (by omega), q1, Option.bind_some]
  | m + 1, n + 1, j, σ1, A, hmn, hA, hm, hj, hl, hg => by
    obtain ⟨-, -, -, -, -, -, t0, t1, hN, -⟩ := id h
    obtain ⟨n1, ⟨n2, n2'⟩, n3, n4, n5, n6⟩ := id hn
    obtain ⟨g1, g2⟩ := h.2.2.1.2.1.1
    have cb := h.2.2.2.1.abs h.2.2.1.2.1
    have k0 := (h.kn (i := 0) (by omega) (by omega)).2
    obtain ⟨kg0a, kg0b⟩ := k0.1
    obtain ⟨kc0a, kc0b⟩ := k0.2.1
    obtain ⟨kr0a, kr0b⟩ := k0.2.2.1
    have gle : gr τ (kd τ p 0) ≤ gr τ p := by
      rw [n3]
      have := Int.mul_le_mul_of_nonneg_right n2 (show 0 ≤ gr τ (kd τ p 0) by omega)
      omega
    have kc : CB τ d (kd τ p 0) j := h.2.2.2.1.same k0.2.2.2.1.1 n6 (by omega) (by omega)
    have e3 : ((m + 1 : Nat) : Int) * (el τ 69 p * cw τ (kd τ p 0)) = m * (el τ 69 p * cw τ (kd τ p 0)) + el τ 69 p * cw τ (kd τ p 0) := by rw [Int.natCast_add, Int.add_mul]; omega
    rw [e3] at hl
    have ac0 : 0 ≤ el τ 69 p * cw τ (kd τ p 0) := Int.mul_nonneg (by omega) kc0a
    have mc : 0 ≤ (m : Int) * (el τ 69 p * cw τ (kd τ p 0)) := Int.mul_nonneg (by omega) ac0
    have c1a : cw τ (kd τ p 0) ≤ el τ 69 p * cw τ (kd τ p 0) := by
      have := Int.mul_le_mul_of_nonneg_right n2 kc0a
      omega
    have c2a : 2 * (el τ 69 p * cw τ (kd τ p 0)) ≤ cw τ p := by
      have := Int.mul_le_mul_of_nonneg_left (show 2 ≤ rc τ (kd τ p 0) + 1 by omega) ac0
      omega
    have cp := h.2.2.1.2.1.2.1.2
    have pm := phi_mono n6 h.2.2.1.2.1.2.2.2.1.2
    have ph := phi_lo (show 0 ≤ wk τ p by have := h.2.2.1.2.1.2.2.2.1.1; omega)
    obtain ⟨aE, aT, aA⟩ := id hA
    obtain ⟨σ2, q1, q2, q3, q4⟩ := h.kid aE (i := 0) (c' := j) (by omega) (by omega) kc (by omega) (by omega)
    have hA2 := hA.add q2 q3 q4
    have gd := row_good d (kd τ p 0) j (h.kn (i := 0) (by omega) (by omega)).1
    have gl := gd.1
    have al : el τ 69 p * (rowL τ d (kd τ p 0) j).length ≤ el τ 69 p * cw τ (kd τ p 0) := Int.mul_le_mul_of_nonneg_left gl (by omega)
    obtain ⟨σ3, z1, z2⟩ := ck_ply72 h hn (rec35 := Rw_ply_35 N (Rw_rowC N d) π n) (x4 := el σ (fl σ 101 r) 0) (x6 := fl σ 46 10) (j := j) (A := A) (L := rowL τ d (kd τ p 0) j) ⟨hj, by omega⟩ gd.2.1 (by omega) (rowL τ d (kd τ p 0) j) N σ2 [] [] (by omega) rfl (by rw [List.append_nil]; exact hA2) (by simp)
    simp only [List.nil_append, List.length_nil] at z1 z2
    obtain ⟨p1, p2⟩ := plyR_good (n := el τ 69 p) (G := gr τ p) (o := (j - c) * gr τ p) n2 gd.2.1
    have u2 := Int.mul_le_mul_of_nonneg_right n5 (show 0 ≤ gr τ (kd τ p 0) by omega)
    have u3 := Int.mul_le_mul_of_nonneg_left gle (show 0 ≤ rc τ p by have := h.2.2.1.2.1.2.2.1.1; omega)
    obtain ⟨σ', y1, y2⟩ := ck_ply35 h hn m n (j + 1) σ3 _ (by omega) z2 (by omega) (by omega) (by rw [List.length_append]; omega) (hg.app (p1.wk (Int.le_refl _) (Int.le_refl _) (by omega)))
    refine ⟨σ', ?_, ?_⟩
    · rw [Rw_ply_35, grd_t (by exact ⟨by omega, by omega⟩), grd_t (by exact ⟨by omega, by omega⟩), if_neg (by omega), q1, Option.bind_some, q3, aT]
      rw [show fl σ 46 10 + (A.length : Int) + ((0 : Nat) : Int) = fl σ 46 10 + A.length by omega] at z1
      rw [z1]
      exact y1
    · rw [plyL, ← List.append_assoc]
      exact y2
theorem ck_ply (h : PH N π τ d σ r p c) (hK : el τ 70 p = 18) (hn : NK18 τ p) : HK σ (rowK τ (rowL τ d) p c) (Rw_ply N (Rw_rowC N d) π σ r c) := by
  obtain ⟨n1, ⟨n2, n2'⟩, n3, n4, n5, n6⟩ := id hn
  obtain ⟨-, -, -, -, -, -, t0, t1, hN, -⟩ := id h
  obtain ⟨⟨a1, a2, a3, a4⟩, a5, a6, a7, a8, a9, a10⟩ := h.at (EF.rf 0 σ)
  obtain ⟨c1, c2, c3, c4⟩ := a8 0 (by omega) (by omega)
  have k0 := (h.kn (i := 0) (by omega) (by omega)).2
  obtain ⟨kr0a, kr0b⟩ := k0.2.2.1
  have ea : fl σ 202 (fl σ 100 r) = el τ 69 p := by
    rw [a10.2.2.1 (by omega) (by omega) (by omega), if_neg (by omega), if_neg (by omega)]
  have tn : ((rc τ (kd τ p 0) + 1).toNat : Int) = rc τ (kd τ p 0) + 1 := Int.toNat_of_nonneg (by omega)
  obtain ⟨σ', z1, z2⟩ := ck_ply35 h hn (rc τ (kd τ p 0) + 1).toNat N (c - rc τ (kd τ p 0)) σ [] (by omega) (AC.rf σ) (by omega) (by omega) (by
    rw [tn, Int.mul_comm]
    simp only [List.length_nil]
    omega) Gu.nil
  rw [List.nil_append] at z2
  have e : Rw_ply N (Rw_rowC N d) π σ r c = some σ' := by
    rw [Rw_ply, grd_t a1, grd_t a6, grd_t (by exact ⟨by omega, by omega, by omega⟩), bnd, grd_t a5, ea, bnd, grd_t c2, c4, bnd]
    exact z1
  have er : rowK τ (rowL τ d) p c = sortE (plyL (rowL τ d (kd τ p 0)) (el τ 69 p) (gr τ p) c (rc τ (kd τ p 0) + 1).toNat (c - rc τ (kd τ p 0))) := by
    unfold rowK
    simp only [hK]
    rfl
  rw [e, er]
  exact AC.hk z2
end CK8
