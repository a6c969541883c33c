/-! floors, remainders, ceilings -/
theorem lxor_neg {x y : Int} (hx : i64 x) (hy : i64 y) (h0 : 0 < y) : lxor x y < 0 ↔ x < 0 := by
  unfold lxor
  have h1 : ∀ a : Int64, a.toInt < 0 ↔ a.toBitVec.msb = true := fun a => by
    rw [← Int64.toInt_toBitVec, BitVec.toInt_neg_iff, BitVec.msb_eq_decide, decide_eq_true_iff]
    omega
  rw [h1, Int64.toBitVec_xor, BitVec.msb_xor]
  have hx' := h1 (Int64.ofInt x)
  have hy' := h1 (Int64.ofInt y)
  rw [c64_ti hx] at hx'
  rw [c64_ti hy] at hy'
  have : (Int64.ofInt y).toBitVec.msb = false := by
    cases h : (Int64.ofInt y).toBitVec.msb with
    | false => rfl
    | true => have := hy'.2 h; omega
  rw [this, Bool.xor_false]
  exact hx'.symm
theorem lxor_i (x y : Int) : i64 (lxor x y) := ⟨Int64.le_toInt _, Int64.toInt_lt _⟩
theorem td_pos {x y : Int} (h : 0 ≤ x) : Int.tdiv x y = x / y := Int.tdiv_eq_ediv_of_nonneg h
theorem tm_pos {x y : Int} (h : 0 ≤ x) : Int.tmod x y = x % y := Int.tmod_eq_emod_of_nonneg h
theorem td_mul {x y : Int} (h : y ∣ x) : Int.tdiv x y = x / y := by
  rw [Int.tdiv_eq_ediv_of_dvd h]
theorem fdiv_neg {x y : Int} (hx : x < 0) (hy : 0 < y) : (if Int.tdiv x y * y = x then Int.tdiv x y else Int.tdiv x y - 1) = x / y ∧ (if Int.tmod x y = 0 then Int.tmod x y else Int.tmod x y + y) = x % y := by
  have e1 := Int.tdiv_mul_add_tmod x y
  have e2 := Int.emod_add_mul_ediv x y
  have m0 := Int.emod_nonneg x (show y ≠ 0 by omega)
  have m1 := Int.emod_lt_of_pos x hy
  have t1 : Int.tdiv x y = if x % y = 0 then x / y else x / y + 1 := by
    rw [Int.tdiv_eq_ediv]
    by_cases c : x % y = 0
    · rw [if_pos c, if_pos (Or.inr (Int.dvd_of_emod_eq_zero c)), Int.add_zero]
    · rw [if_neg c, if_neg (fun k => k.elim (fun k => by omega) (fun k => c (Int.emod_eq_zero_of_dvd k))), Int.sign_eq_one_of_pos hy]
  have e3 : x / y * y = y * (x / y) := Int.mul_comm _ _
  by_cases c : x % y = 0
  · rw [if_pos c] at t1
    rw [t1] at e1 ⊢
    rw [if_pos (by omega), if_pos (by omega)]
    exact ⟨rfl, by omega⟩
  · rw [if_neg c] at t1
    rw [t1] at e1 ⊢
    have e4 : (x / y + 1) * y = y * (x / y) + y := by rw [Int.add_mul]; omega
    rw [if_neg (by omega), if_neg (by omega)]
    exact ⟨by omega, by omega⟩
section AR
variable {N : Nat}
theorem c_fdiv {x y : Int} (hx : i64 x) (hy : i64 y) (h0 : 0 < y) : M_floorDiv N x y = some (x / y) := by
  have s := lxor_neg hx hy h0
  rw [M_floorDiv, grd_t hx, grd_t hy, grd_t (by omega), bnd, grd_t (lxor_i x y)]
  by_cases c : x < 0
  · rw [if_pos (s.2 c)]
    have := fdiv_neg c h0
    have b1 : i64 (Int.tdiv x y * y) := by
      have e1 := Int.tdiv_mul_add_tmod x y
      have m1 : Int.tmod x y ≤ 0 ∧ -y < Int.tmod x y := by
        constructor
        · have := Int.tmod_nonneg y (show 0 ≤ -x by omega)
          rw [Int.neg_tmod] at this
          omega
        · have := Int.tmod_lt_of_pos (-x) h0
          rw [Int.neg_tmod] at this
          omega
      exact ⟨by omega, by omega⟩
    rw [grd_t b1, ← this.1]
    split <;> rfl
  · rw [if_neg (fun k => c (s.1 k)), td_pos (by omega)]
theorem c_fmod {x y : Int} (hx : i64 x) (hy : i64 y) (h0 : 0 < y) : M_floorMod N x y = some (x % y) := by
  have s := lxor_neg hx hy h0
  rw [M_floorMod, grd_t hx, grd_t hy, grd_t (by omega), bnd, grd_t (lxor_i x y)]
  by_cases c : x < 0
  · rw [if_pos (s.2 c)]
    have := fdiv_neg c h0
    have m1 : Int.tmod x y ≤ 0 ∧ -y < Int.tmod x y := by
      constructor
      · have := Int.tmod_nonneg y (show 0 ≤ -x by omega)
        rw [Int.neg_tmod] at this
        omega
      · have := Int.tmod_lt_of_pos (-x) h0
        rw [Int.neg_tmod] at this
        omega
    rw [grd_t (by exact ⟨by omega, by omega⟩), ← this.2]
    split <;> rfl
  · rw [if_neg (fun k => c (s.1 k)), tm_pos (by omega)]
theorem c_ceil {x y : Int} (hx : i64 (-x)) (hy : i64 y) (h0 : 0 < y) : Rw_ceiling N x y = some (-((-x) / y)) := by
  rw [Rw_ceiling, grd_t hy, if_neg (by omega), c_fdiv hx hy h0, Option.bind_some]
theorem r_div' {x y : Int} (hx : i64 x) (hy : i64 y) (h0 : 0 < y) : r_div N x y = some (x / y) := by
  rw [r_div, grd_t hx, grd_t hy, grd_t (by omega), bnd]
  by_cases c : x < 0
  · have := fdiv_neg c h0
    have m1 : Int.tmod x y ≤ 0 ∧ -y < Int.tmod x y := by
      constructor
      · have := Int.tmod_nonneg y (show 0 ≤ -x by omega)
        rw [Int.neg_tmod] at this
        omega
      · have := Int.tmod_lt_of_pos (-x) h0
        rw [Int.neg_tmod] at this
        omega
    have e1 := Int.tdiv_mul_add_tmod x y
    rw [grd_t (by exact ⟨by omega, by omega⟩), ← this.1]
    by_cases c2 : Int.tmod x y < 0
    · rw [if_pos c2, if_neg (by omega)]
    · rw [if_neg c2, if_pos (by omega)]
  · have m0 := Int.emod_nonneg x (show y ≠ 0 by omega)
    have m1 := Int.emod_lt_of_pos x h0
    rw [tm_pos (by omega), td_pos (by omega), grd_t (by exact ⟨by omega, by omega⟩), if_neg (by omega)]
theorem r_mod' {x y : Int} (hx : i64 x) (hy : i64 y) (h0 : 0 < y) : r_mod N x y = some (x % y) := by
  rw [r_mod, r_div' hx hy h0, Option.bind_some]
  have := Int.emod_add_mul_ediv x y
  rw [show x - y * (x / y) = x % y by omega]
end AR
