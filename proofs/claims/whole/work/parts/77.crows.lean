/-! rows of the class: several rows of one kid, one behind the other -/
theorem chs_in (lo hi : Int) : chs lo hi 1 = inW lo hi := funext (fun e => by
  unfold chs inW
  by_cases h1 : e.1 < lo
  · rw [if_pos h1, decide_eq_false (by omega), decide_eq_false (by omega)]
  · rw [if_neg h1]
    by_cases h2 : e.1 < hi
    · rw [if_pos h2, decide_eq_true rfl, decide_eq_true (by omega)]
    · rw [if_neg h2, decide_eq_false (by omega), decide_eq_false (by omega)])
theorem chs_out (lo hi : Int) : chs lo hi 0 = fun e => !inW lo hi e := funext (fun e => by
  unfold chs inW
  by_cases h1 : e.1 < lo
  · rw [if_pos h1, decide_eq_true rfl, decide_eq_false (by omega)]; rfl
  · rw [if_neg h1]
    by_cases h2 : e.1 < hi
    · rw [if_pos h2, decide_eq_false (by omega), decide_eq_true (by omega)]; rfl
    · rw [if_neg h2, decide_eq_true rfl, decide_eq_false (by omega)]; rfl)
/-- the row as far as it is worked out -/
def AC (σ : St) (t : Int) (A : List Evt) (σ1 : St) : Prop := EF t σ σ1 ∧ fl σ1 46 10 = t + A.length ∧ At (CE σ1) t A
theorem AC.rf (σ : St) : AC σ (fl σ 46 10) [] σ := ⟨EF.rf _ _, by simp, trivial⟩
theorem AC.add {σ σ1 σ2 : St} {t : Int} {A L : List Evt} (h : AC σ t A σ1) (h1 : EF (fl σ1 46 10) σ1 σ2) (h2 : fl σ2 46 10 = fl σ1 46 10 + L.length) (h3 : At (CE σ2) (fl σ1 46 10) L) : AC σ t (A ++ L) σ2 := by
  obtain ⟨a, b, c⟩ := h
  refine ⟨a.tr h1 (by omega), by rw [h2, b, List.length_append]; omega, At.app (h1.at c (by omega)) ?_⟩
  rw [← b]; exact h3
theorem AC.hk {σ σ1 : St} {A : List Evt} (h : AC σ (fl σ 46 10) A σ1) : HK σ A (some σ1) := ⟨σ1, rfl, h.1, h.2.1, h.2.2⟩
section CK2
variable {N : Nat} {π : Sh} {τ : St} {d : Nat} {σ : St} {r p c : Int}
/-- a kid's row, stretched, moved, clipped to the cycle, behind what is there -/
theorem PH.kidwin (h : PH N π τ d σ r p c) {σ1 : St} {i c' k b : Int} {A : List Evt} (hA : AC σ (fl σ 46 10) A σ1) (h0 : 0 ≤ i) (h1 : i < el τ 64 p) (hc : CB τ d (kd τ p i) c') (hl : (A.length : Int) + cw τ (kd τ p i) ≤ cw τ p) (hw : wk τ (kd τ p i) ≤ wk τ p) (hk : 1 ≤ k ∧ k ≤ 1000000) (hb : -1000000000000 ≤ b ∧ b ≤ 1000000000000) : ∃ σ2 σ3 σ4, Rw_rowC N d π σ1 (el σ (fl σ 101 r) i) c' = some σ2 ∧ EF (fl σ 46 10) σ σ2 ∧ Es_scale N π σ2 (fl σ1 46 10) k b = some σ3 ∧ EF (fl σ 46 10) σ σ3 ∧ Es_choose N π σ3 (fl σ1 46 10) 0 (gr τ p) 1 = some σ4 ∧ AC σ (fl σ 46 10) (A ++ (mv k b (rowL τ d (kd τ p i) c')).filter (inW 0 (gr τ p))) σ4 := by
  obtain ⟨-, -, -, -, -, -, t0, t1, hN, -⟩ := id h
  have w := h.2.2.1.2.1.2.2.2.1
  obtain ⟨g1, g2⟩ := h.2.2.1.2.1.1
  have pm := phi_mono hw w.2
  obtain ⟨aE, aT, aA⟩ := id hA
  obtain ⟨⟨kg1, kg2⟩, ⟨kc1, kc2⟩, -, ⟨kw1, kw2⟩, -⟩ := (h.kn h0 h1).2
  have gd := row_good d (kd τ p i) c' (h.kn h0 h1).1
  have gl := gd.1
  have ph := phi_lo (show 0 ≤ wk τ (kd τ p i) by omega)
  obtain ⟨σ2, σ3, q1, q2, q3, q4, q5, q6⟩ := h.kidmv aE h0 h1 hc (by omega) (by omega) (k := k) (b := b) ⟨by omega, by omega⟩ ⟨by omega, by omega⟩
  have gm := (gd.2.1.mvd (b := b) hk.1)
  rw [mv_len] at q5
  obtain ⟨σ4, s1, s2, s3, s4, s5⟩ := c_choose (N := N) (π := π) (lo := 0) (hi := gr τ p) (x := 1) hN ⟨by decide, ⟨by omega, by omega⟩⟩ (by decide) q6 (fun e he => by
    obtain ⟨⟨e1, e2⟩, -⟩ := gm e he
    have u : gr τ (kd τ p i) * k ≤ 1000000 * k := Int.mul_le_mul_of_nonneg_right kg2 (by omega)
    exact ⟨by omega, by omega⟩) (by omega) (by rw [mv_len, q5]) (by rw [q5]; omega)
  rw [chs_in] at s4 s5
  refine ⟨σ2, σ3, σ4, q1, aE.tr q2 (by omega), q3, aE.tr q4 (by omega), s1, hA.add (q4.tr s2 (Int.le_refl _)) s4 s5⟩
theorem ck_fast_lp (h : PH N π τ d σ r p c) (hn : NK9 τ p) {last : Int} (hla : -1000000000000000 ≤ last ∧ last ≤ 1000000000000000) : ∀ (m n : Nat) (j : Int) (σ1 : St) (A : List Evt), m < n → AC σ (fl σ 46 10) A σ1 → A.length + m * cw τ (kd τ p 0) ≤ cw τ p → last + 1 - j = m → (0 < m → c * el τ 69 p - el τ 68 p < j * el τ 68 p ∧ last * el τ 68 p < (c + 1) * el τ 69 p) → -1000000000000000 ≤ j → j ≤ 1000000000000000 → ∃ σ', Rw_fast_62 N (Rw_rowC N d) π n σ1 r c (el σ (fl σ 101 r) 0) (el τ 69 p) (el τ 68 p) last j = some σ' ∧ AC σ (fl σ 46 10) (A ++ rwsL (rowL τ d (kd τ p 0)) (el τ 68 p) (fun j => (j * el τ 68 p - c * el τ 69 p) * gr τ (kd τ p 0)) (gr τ p) m j) σ'
  | 0, n + 1, j, σ1, A, _, hA, _, hm, _, j0, j1 => by
    refine ⟨σ1, ?_, by rw [rwsL, List.append_nil]; exact hA⟩
    rw [Rw_fast_62, grd_t (by exact ⟨by omega, by omega⟩), grd_t (by exact ⟨by omega, by omega⟩), if_pos (by omega)]
  | m + 1, n + 1, j, σ1, A, hmn, hA, hl, hm, hj, j0, j1 => by
    obtain ⟨n1, ⟨n2, n2'⟩, ⟨n3, n3'⟩, n4, n5, n6, n7⟩ := id hn
    obtain ⟨⟨kg1, kg2⟩, ⟨kc1, kc2⟩, -, ⟨kw1, kw2⟩, -⟩ := (h.kn (i := 0) (by omega) (by omega)).2
    obtain ⟨hj1, hj2⟩ := hj (by omega)
    have e3 : ((m + 1 : Nat) : Int) * cw τ (kd τ p 0) = m * cw τ (kd τ p 0) + cw τ (kd τ p 0) := by rw [Int.natCast_add, Int.add_mul]; omega
    rw [e3] at hl
    have mc : 0 ≤ (m : Int) * cw τ (kd τ p 0) := Int.mul_nonneg (by omega) kc1
    have jl : j * el τ 68 p ≤ last * el τ 68 p := Int.mul_le_mul_of_nonneg_right (by omega) (by omega)
    have e4 : (c + 1) * el τ 69 p = c * el τ 69 p + el τ 69 p := by rw [Int.add_mul]; omega
    -- the cycle of the kid
    have qc0 : 1 ≤ (el τ 69 p + el τ 68 p - 1) / el τ 68 p := by
      rw [Int.le_ediv_iff_mul_le (by omega)]
      omega
    have qc1 : el τ 69 p ≤ (el τ 69 p + el τ 68 p - 1) / el τ 68 p * el τ 68 p := by
      have d2 := Int.emod_add_mul_ediv (el τ 69 p + el τ 68 p - 1) (el τ 68 p)
      have y1 := Int.emod_lt_of_pos (el τ 69 p + el τ 68 p - 1) (show 0 < el τ 68 p by omega)
      rw [Int.mul_comm]
      omega
    have tq : 1 ≤ (el τ 69 p + el τ 68 p - 1) / el τ 68 p + (if el τ 68 p = 1 then 0 else 1) ∧ (el τ 69 p + el τ 68 p - 1) / el τ 68 p ≤ (el τ 69 p + el τ 68 p - 1) / el τ 68 p + (if el τ 68 p = 1 then 0 else 1) := by split <;> omega
    have w0 : wk τ (kd τ p 0) ≤ wk τ p := by
      have := Int.mul_le_mul_of_nonneg_right tq.1 (show 0 ≤ wk τ (kd τ p 0) by omega)
      omega
    have kc : CB τ d (kd τ p 0) j := h.2.2.2.1.kid (m := (el τ 69 p + el τ 68 p - 1) / el τ 68 p + (if el τ 68 p = 1 then 0 else 1)) tq.1 kw1 n7 (fun X x0 x1 x2 => by
      -- j is at most (X + 1) a / b, and a / b is at most the ceiling
      have hq : ∀ Y : Int, 0 ≤ Y → Y * el τ 69 p ≤ Y * ((el τ 69 p + el τ 68 p - 1) / el τ 68 p) * el τ 68 p := fun Y hY => by
        rw [Int.mul_assoc]
        exact Int.mul_le_mul_of_nonneg_left qc1 hY
      have h1 := hq (X + 1) (by omega)
      have u1 : (c + 1) * el τ 69 p ≤ (X + 1) * el τ 69 p := Int.mul_le_mul_of_nonneg_right (by omega) (by omega)
      have u2 : -X * el τ 69 p ≤ c * el τ 69 p := Int.mul_le_mul_of_nonneg_right x1 (by omega)
      rw [Int.neg_mul] at u2
      have h2 := hq X x0
      have v1 : j < (X + 1) * ((el τ 69 p + el τ 68 p - 1) / el τ 68 p) := by
        refine Int.lt_of_mul_lt_mul_right (a := el τ 68 p) ?_ (by omega)
        omega
      have v2 : -(X * ((el τ 69 p + el τ 68 p - 1) / el τ 68 p)) - 1 < j := by
        refine Int.lt_of_mul_lt_mul_right (a := el τ 68 p) ?_ (by omega)
        rw [Int.sub_mul, Int.neg_mul]
        omega
      have w1 : (X + 1) * ((el τ 69 p + el τ 68 p - 1) / el τ 68 p) ≤ (X + 65) * ((el τ 69 p + el τ 68 p - 1) / el τ 68 p + (if el τ 68 p = 1 then 0 else 1)) := Int.mul_le_mul (by omega) tq.2 (by omega) (by omega)
      have w2 : X * ((el τ 69 p + el τ 68 p - 1) / el τ 68 p) + 1 ≤ (X + 65) * ((el τ 69 p + el τ 68 p - 1) / el τ 68 p) := by rw [Int.add_mul X]; omega
      have w3 : (X + 65) * ((el τ 69 p + el τ 68 p - 1) / el τ 68 p) ≤ (X + 65) * ((el τ 69 p + el τ 68 p - 1) / el τ 68 p + (if el τ 68 p = 1 then 0 else 1)) := Int.mul_le_mul_of_nonneg_left tq.2 (by omega)
      constructor <;> omega)
    have sb : -64 ≤ j * el τ 68 p - c * el τ 69 p ∧ j * el τ 68 p - c * el τ 69 p ≤ 64 := by omega
    have sb2 : -64 * gr τ (kd τ p 0) ≤ (j * el τ 68 p - c * el τ 69 p) * gr τ (kd τ p 0) := Int.mul_le_mul_of_nonneg_right sb.1 (by omega)
    have sb3 : (j * el τ 68 p - c * el τ 69 p) * gr τ (kd τ p 0) ≤ 64 * gr τ (kd τ p 0) := Int.mul_le_mul_of_nonneg_right sb.2 (by omega)
    obtain ⟨σ2, σ3, σ4, q1, q2, q3, q4, q5, q6⟩ := h.kidwin hA (i := 0) (c' := j) (k := el τ 68 p) (b := (j * el τ 68 p - c * el τ 69 p) * gr τ (kd τ p 0)) (by omega) (by omega) kc (by omega) w0 ⟨n3, by omega⟩ ⟨by omega, by omega⟩
    have fl4 := flt_len (inW 0 (gr τ p)) (mv (el τ 68 p) ((j * el τ 68 p - c * el τ 69 p) * gr τ (kd τ p 0)) (rowL τ d (kd τ p 0) j))
    rw [mv_len] at fl4
    have gl := (row_good d (kd τ p 0) j (h.kn (i := 0) (by omega) (by omega)).1).1
    obtain ⟨σ', z1, z2⟩ := ck_fast_lp h hn hla m n (j + 1) σ4 _ (by omega) q6 (by rw [List.length_append]; omega) (by omega) (fun hm => ⟨by rw [Int.add_mul]; omega, hj2⟩) (by omega) (by
      have u := Int.mul_le_mul_of_nonneg_left n3 (show 0 ≤ (if 0 ≤ j then j else 0) by split <;> omega)
      have cb := h.2.2.2.1.abs h.2.2.1.2.1
      have u5 : c * el τ 69 p ≤ 200000000000 * 64 := by
        by_cases hc : 0 ≤ c
        · have a1 : c * el τ 69 p ≤ c * 64 := Int.mul_le_mul_of_nonneg_left n2' hc
          omega
        · have a1 : c * el τ 69 p ≤ 0 := Int.mul_nonpos_of_nonpos_of_nonneg (by omega) (by omega)
          omega
      split at u <;> omega)
    obtain ⟨⟨a1, a2, a3, a4⟩, a5, a6, a7, a8, a9, a10⟩ := h.at q2
    obtain ⟨⟨b1, b2, b3, b4⟩, b5, b6, b7, b8, b9, b10⟩ := h.at q4
    obtain ⟨c1, c2, c3, c4⟩ := a8 0 (by omega) (by omega)
    refine ⟨σ', ?_, ?_⟩
    · rw [Rw_fast_62, grd_t (by exact ⟨by omega, by omega⟩), grd_t (by exact ⟨by omega, by omega⟩), if_neg (by omega), q1, Option.bind_some, grd_t c2, c3, q3, Option.bind_some, grd_t a1, b4, q5, Option.bind_some, bnd]
      exact z1
    · rw [rwsL, ← List.append_assoc]
      exact z2
theorem ck_fast (h : PH N π τ d σ r p c) (hK : el τ 70 p = 9) (hn : NK9 τ p) : HK σ (rowK τ (rowL τ d) p c) (Rw_fast N (Rw_rowC N d) π σ r c) := by
  obtain ⟨n1, ⟨n2, n2'⟩, ⟨n3, n3'⟩, n4, n5, n6, n7⟩ := id hn
  obtain ⟨-, -, -, -, -, -, t0, t1, hN, -⟩ := id h
  obtain ⟨⟨a1, a2, a3, a4⟩, a5, a6, a7, a8, a9, a10⟩ := h.at (EF.rf 0 σ)
  have cb := h.2.2.2.1.abs h.2.2.1.2.1
  have ea : fl σ 202 (fl σ 100 r) = el τ 69 p := by
    rw [a10.2.2.1 (by omega) (by omega) (by omega), if_neg (by omega), if_neg (by omega)]
  have eb : fl σ 203 (fl σ 100 r) = el τ 68 p := by
    rw [a10.2.2.2.1 (by omega), if_neg (by omega), if_neg (by omega)]
  have e4 : (c + 1) * el τ 69 p = c * el τ 69 p + el τ 69 p := by rw [Int.add_mul]; omega
  have u5 : -12800000000000 ≤ c * el τ 69 p ∧ c * el τ 69 p ≤ 12800000000000 := by
    by_cases hc : 0 ≤ c
    · have a1 : c * el τ 69 p ≤ c * 64 := Int.mul_le_mul_of_nonneg_left n2' hc
      have := Int.mul_nonneg hc (show 0 ≤ el τ 69 p by omega)
      omega
    · have a1 : c * el τ 69 p ≤ 0 := Int.mul_nonpos_of_nonpos_of_nonneg (by omega) (by omega)
      have a2 : c * 64 ≤ c * el τ 69 p := Int.mul_le_mul_of_nonpos_left (by omega) n2'
      omega
  have d1 := Int.emod_add_mul_ediv (c * el τ 69 p) (el τ 68 p)
  have d2 := Int.emod_add_mul_ediv ((c + 1) * el τ 69 p - 1) (el τ 68 p)
  have x0 := Int.emod_nonneg (c * el τ 69 p) (show el τ 68 p ≠ 0 by omega)
  have x1 := Int.emod_lt_of_pos (c * el τ 69 p) (show 0 < el τ 68 p by omega)
  have y0 := Int.emod_nonneg ((c + 1) * el τ 69 p - 1) (show el τ 68 p ≠ 0 by omega)
  have y1 := Int.emod_lt_of_pos ((c + 1) * el τ 69 p - 1) (show 0 < el τ 68 p by omega)
  have le1 : c * el τ 69 p / el τ 68 p ≤ ((c + 1) * el τ 69 p - 1) / el τ 68 p := Int.ediv_le_ediv (by omega) (by omega)
  have cc := ceil_count (c := c) n2 n3
  obtain ⟨⟨kg1, kg2⟩, ⟨kc1, kc2⟩, -, -, -⟩ := (h.kn (i := 0) (by omega) (by omega)).2
  have jb : ∀ x : Int, -12800000000000 ≤ x → x ≤ 12800000000100 → -12800000000001 ≤ x / el τ 68 p ∧ x / el τ 68 p ≤ 12800000000100 := by
    intro x h1 h2
    constructor
    · rw [Int.le_ediv_iff_mul_le (by omega)]
      have := Int.mul_le_mul_of_nonpos_left (a := -12800000000001) (by omega) n3
      omega
    · by_cases hx : 0 ≤ x
      · have := Int.ediv_le_self (el τ 68 p) hx
        omega
      · have := Int.ediv_neg_of_neg_of_pos (show x < 0 by omega) (show 0 < el τ 68 p by omega)
        omega
  have j1 := jb _ u5.1 (by omega)
  have j2 := jb ((c + 1) * el τ 69 p - 1) (by omega) (by omega)
  have hm1 : ((((c + 1) * el τ 69 p - 1) / el τ 68 p - c * el τ 69 p / el τ 68 p + 1).toNat : Int) = ((c + 1) * el τ 69 p - 1) / el τ 68 p - c * el τ 69 p / el τ 68 p + 1 := Int.toNat_of_nonneg (by omega)
  have cm : ((((c + 1) * el τ 69 p - 1) / el τ 68 p - c * el τ 69 p / el τ 68 p + 1).toNat : Int) * cw τ (kd τ p 0) ≤ cw τ p := Int.le_trans (Int.mul_le_mul_of_nonneg_right cc kc1) n5
  have small : (el τ 69 p + el τ 68 p - 1) / el τ 68 p + (if el τ 68 p = 1 then 0 else 1) ≤ 129 := by
    have := Int.ediv_le_self (el τ 68 p) (show 0 ≤ el τ 69 p + el τ 68 p - 1 by omega)
    split <;> omega
  obtain ⟨σ', z1, z2⟩ := ck_fast_lp h hn (last := ((c + 1) * el τ 69 p - 1) / el τ 68 p) (by omega) (((c + 1) * el τ 69 p - 1) / el τ 68 p - c * el τ 69 p / el τ 68 p + 1).toNat N (c * el τ 69 p / el τ 68 p) σ [] (by omega) (AC.rf σ) (by simpa using cm) (by omega) (fun _ => ⟨by rw [Int.mul_comm (c * el τ 69 p / el τ 68 p)]; omega, by rw [Int.mul_comm (((c + 1) * el τ 69 p - 1) / el τ 68 p)]; omega⟩) (by omega) (by omega)
  have e : Rw_fast N (Rw_rowC N d) π σ r c = some σ' := by
    rw [Rw_fast, grd_t a1, grd_t a6, grd_t (by exact ⟨by omega, by omega, by omega⟩), bnd, grd_t a5, ea, grd_t (by exact ⟨by omega, by omega⟩), show max 1 (el τ 69 p) = el τ 69 p by omega, grd_t (by exact ⟨by omega, by omega⟩), bnd, eb, grd_t (by exact ⟨by omega, by omega⟩), show max 1 (el τ 68 p) = el τ 68 p by omega, grd_t (by exact ⟨by omega, by omega⟩), bnd, c_fdiv ⟨by omega, by omega⟩ ⟨by omega, by omega⟩ (by omega), Option.bind_some, c_fdiv ⟨by omega, by omega⟩ ⟨by omega, by omega⟩ (by omega), Option.bind_some]
    exact z1
  have er : rowK τ (rowL τ d) p c = rwsL (rowL τ d (kd τ p 0)) (el τ 68 p) (fun j => (j * el τ 68 p - c * el τ 69 p) * gr τ (kd τ p 0)) (gr τ p) (((c + 1) * el τ 69 p - 1) / el τ 68 p - c * el τ 69 p / el τ 68 p + 1).toNat (c * el τ 69 p / el τ 68 p) := by
    unfold rowK
    simp only [hK]
    rfl
  rw [e, er]
  exact (show AC σ (fl σ 46 10) _ σ' from by rw [List.nil_append] at z2; exact z2).hk
/-- shifted rows: earlier by x / y of a cycle -/
theorem ck_shift_lp (h : PH N π τ d σ r p c) {x y : Int} (hm1 : el τ 64 p = 1) (hy : 1 ≤ y ∧ y ≤ 64) (hx : -64 ≤ x ∧ x ≤ 64) (hd : gr τ (kd τ p 0) ∣ gr τ p) (hyd : y ∣ gr τ p) (hw : wk τ (kd τ p 0) ≤ wk τ p) : ∀ (m n : Nat) (j last : Int) (σ1 : St) (A : List Evt), m < n → AC σ (fl σ 46 10) A σ1 → A.length + m * cw τ (kd τ p 0) ≤ cw τ p → last + 1 - j = m → -66 ≤ j → (0 < m → -65 ≤ j ∧ last ≤ 65) → j ≤ 67 → ∃ σ', Rw_shift_38 N (Rw_rowC N d) π n σ1 r c x (el σ (fl σ 101 r) 0) y last j = some σ' ∧ AC σ (fl σ 46 10) (A ++ rwsL (fun j => rowL τ d (kd τ p 0) (c + j)) (gr τ p / gr τ (kd τ p 0)) (fun j => j * gr τ p - x * (gr τ p / y)) (gr τ p) m j) σ'
  | 0, n + 1, j, last, σ1, A, _, hA, _, hm, j0, _, j1 => by
    refine ⟨σ1, ?_, by rw [rwsL, List.append_nil]; exact hA⟩
    rw [Rw_shift_38, grd_t (by exact ⟨by omega, by omega⟩), grd_t (by exact ⟨by omega, by omega⟩), if_pos (by omega)]
  | m + 1, n + 1, j, last, σ1, A, hmn, hA, hl, hm, j0, hj, j1 => by
    obtain ⟨g1, g2⟩ := h.2.2.1.2.1.1
    obtain ⟨⟨kg1, kg2⟩, ⟨kc1, kc2⟩, -, ⟨kw1, kw2⟩, -⟩ := (h.kn (i := 0) (by omega) (by omega)).2
    obtain ⟨hj1, hj2⟩ := hj (by omega)
    have e3 : ((m + 1 : Nat) : Int) * cw τ (kd τ p 0) = m * cw τ (kd τ p 0) + cw τ (kd τ p 0) := by rw [Int.natCast_add, Int.add_mul]; omega
    rw [e3] at hl
    have mc : 0 ≤ (m : Int) * cw τ (kd τ p 0) := Int.mul_nonneg (by omega) kc1
    have kc : CB τ d (kd τ p 0) (c + j) := h.2.2.2.1.same kw1 hw (by omega) (by omega)
    have dp := dv_pos hd kg1 g1
    have dl : gr τ p / gr τ (kd τ p 0) ≤ gr τ p := Int.ediv_le_self _ (by omega)
    have q0 : 0 ≤ gr τ p / y := Int.ediv_nonneg (by omega) (by omega)
    have ql : gr τ p / y ≤ gr τ p := Int.ediv_le_self _ (by omega)
    have s1 : -65 * gr τ p ≤ j * gr τ p := Int.mul_le_mul_of_nonneg_right hj1 (by omega)
    have s2 : j * gr τ p ≤ 65 * gr τ p := Int.mul_le_mul_of_nonneg_right (by omega) (by omega)
    have s3 : -64 * (gr τ p / y) ≤ x * (gr τ p / y) := Int.mul_le_mul_of_nonneg_right hx.1 q0
    have s4 : x * (gr τ p / y) ≤ 64 * (gr τ p / y) := Int.mul_le_mul_of_nonneg_right hx.2 q0
    obtain ⟨σ2, σ3, σ4, q1, q2, q3, q4, q5, q6⟩ := h.kidwin hA (i := 0) (c' := c + j) (k := gr τ p / gr τ (kd τ p 0)) (b := j * gr τ p - x * (gr τ p / y)) (by omega) (by omega) kc (by omega) hw ⟨dp, by omega⟩ ⟨by omega, by omega⟩
    have fl4 := flt_len (inW 0 (gr τ p)) (mv (gr τ p / gr τ (kd τ p 0)) (j * gr τ p - x * (gr τ p / y)) (rowL τ d (kd τ p 0) (c + j)))
    rw [mv_len] at fl4
    have gl := (row_good d (kd τ p 0) (c + j) (h.kn (i := 0) (by omega) (by omega)).1).1
    obtain ⟨σ', z1, z2⟩ := ck_shift_lp h hm1 hy hx hd hyd hw m n (j + 1) last σ4 _ (by omega) q6 (by rw [List.length_append]; omega) (by omega) (by omega) (fun hm => ⟨by omega, hj2⟩) (by omega)
    obtain ⟨⟨a1, a2, a3, a4⟩, a5, a6, a7, a8, a9, a10⟩ := h.at q2
    obtain ⟨⟨b1, b2, b3, b4⟩, b5, b6, b7, b8, b9, b10⟩ := h.at q4
    obtain ⟨c1, c2, c3, c4⟩ := a8 0 (by omega) (by omega)
    refine ⟨σ', ?_, ?_⟩
    · rw [Rw_shift_38, grd_t (by exact ⟨by omega, by omega⟩), grd_t (by exact ⟨by omega, by omega⟩), if_neg (by omega), q1, Option.bind_some, grd_t a1, grd_t c2, a4, c3, grd_t (by exact ⟨by omega, by omega⟩), grd_t (by exact ⟨by omega, by omega⟩), grd_t (by omega), grd_t (by exact ⟨by omega, by omega⟩), grd_t (by omega), td_pos (by omega), td_pos (by omega), q3, Option.bind_some, b4, q5, Option.bind_some, bnd]
      exact z1
    · rw [rwsL, ← List.append_assoc]
      exact z2
theorem ck_shift (h : PH N π τ d σ r p c) {x y : Int} {m : Nat} (hm1 : el τ 64 p = 1) (hy : 1 ≤ y ∧ y ≤ 64) (hx : -64 ≤ x ∧ x ≤ 64) (hd : gr τ (kd τ p 0) ∣ gr τ p) (hyd : y ∣ gr τ p) (hw : wk τ (kd τ p 0) ≤ wk τ p) (hc : m * cw τ (kd τ p 0) ≤ cw τ p) (hm : -((-x) / y) + 1 - x / y = m) : HK σ (rwsL (fun j => rowL τ d (kd τ p 0) (c + j)) (gr τ p / gr τ (kd τ p 0)) (fun j => j * gr τ p - x * (gr τ p / y)) (gr τ p) m (x / y)) (Rw_shift N (Rw_rowC N d) π σ r c x y) := by
  obtain ⟨-, -, -, -, -, -, t0, t1, hN, -⟩ := id h
  obtain ⟨⟨a1, a2, a3, a4⟩, a5, a6, a7, a8, a9, a10⟩ := h.at (EF.rf 0 σ)
  have jb : ∀ x : Int, -64 ≤ x → x ≤ 64 → -64 ≤ x / y ∧ x / y ≤ 64 := by
    intro x h1 h2
    constructor
    · rw [Int.le_ediv_iff_mul_le (by omega)]
      have := Int.mul_le_mul_of_nonpos_left (a := -64) (by omega) hy.1
      omega
    · by_cases hx : 0 ≤ x
      · have := Int.ediv_le_self y hx
        omega
      · have := Int.ediv_neg_of_neg_of_pos (show x < 0 by omega) (show 0 < y by omega)
        omega
  have j1 := jb x hx.1 hx.2
  have j2 := jb (-x) (by omega) (by omega)
  obtain ⟨σ', z1, z2⟩ := ck_shift_lp h hm1 hy hx hd hyd hw m N (x / y) (-((-x) / y)) σ [] (by omega) (AC.rf σ) (by simpa using hc) hm (by omega) (fun _ => ⟨by omega, by omega⟩) (by omega)
  have e : Rw_shift N (Rw_rowC N d) π σ r c x y = some σ' := by
    rw [Rw_shift, grd_t a1, grd_t a6, grd_t (by exact ⟨by omega, by omega, by omega⟩), bnd, grd_t (by exact ⟨by omega, by omega⟩), bnd, show max 1 y = y by omega, c_fdiv ⟨by omega, by omega⟩ ⟨by omega, by omega⟩ (by omega), Option.bind_some, c_ceil ⟨by omega, by omega⟩ ⟨by omega, by omega⟩ (by omega), Option.bind_some]
    exact z1
  rw [e]
  exact (show AC σ (fl σ 46 10) _ σ' from by rw [List.nil_append] at z2; exact z2).hk
end CK2
