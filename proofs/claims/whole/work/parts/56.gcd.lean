/-! the greatest common measure -/
def gC (x y : Int) : Int := ((Int.gcd x y : Nat) : Int)
theorem gC_0 {x : Int} (h : 0 ≤ x) : gC x 0 = x := by
  unfold gC
  rw [Int.gcd_zero_right]
  omega
theorem gC_step {x y : Int} (hx : 0 ≤ x) (hy : 0 < y) : gC y (x % y) = gC x y := by
  obtain ⟨a, rfl⟩ := Int.eq_ofNat_of_zero_le hx
  obtain ⟨b, rfl⟩ := Int.eq_ofNat_of_zero_le (Int.le_of_lt hy)
  unfold gC
  have e : ((a : Int) % (b : Int)) = ((a % b : Nat) : Int) := rfl
  rw [e]
  show ((Nat.gcd b (a % b) : Nat) : Int) = ((Nat.gcd a b : Nat) : Int)
  rw [Nat.gcd_comm a b, Nat.gcd_rec b a, Nat.gcd_comm b]
theorem gC_pos {x y : Int} (hy : 0 < y) : 0 < gC x y := by
  unfold gC
  have : 0 < Int.gcd x y := Int.gcd_pos_of_ne_zero_right x (by omega)
  omega
theorem gC_le {x y : Int} (hy : 0 < y) : gC x y ≤ y := by
  unfold gC
  exact Int.le_of_dvd hy (Int.gcd_dvd_right x y)
theorem gC_posl {x y : Int} (hy : 0 < x) : 0 < gC x y := by
  unfold gC
  have : 0 < Int.gcd x y := Int.gcd_pos_of_ne_zero_left y (by omega)
  omega
theorem cgcd_lp {N : Nat} : ∀ (k : Nat) (x y : Int) (n : Nat) (c : Int), 0 ≤ x → x < 4611686018427387904 → 0 ≤ y → y < 2 ^ k → y < 4611686018427387904 → 2 * k + 1 ≤ n → 0 ≤ c → c + 2 * k + 1 ≤ 200 → Pt_gcd_9 N n x y c = Pt_gcd_45 N (gC x y)
  | _, _, _, 0, _, _, _, _, _, _, hn, _, _ => absurd hn (by omega)
  | 0, x, y, n + 1, c, x0, x1, y0, yk, y1, hn, c0, c1 => by
    have : y = 0 := by
      have : (2 : Int) ^ 0 = 1 := rfl
      omega
    subst this
    rw [Pt_gcd_9, grd_t (by exact ⟨by omega, by omega⟩), if_pos (by omega), grd_t (by exact ⟨by omega, by omega⟩), if_pos rfl, gC_0 x0]
  | k + 1, x, y, n + 1, c, x0, x1, y0, yk, y1, hn, c0, c1 => by
    have hp : (2 : Int) ^ (k + 1) = 2 ^ k * 2 := Int.pow_succ 2 k
    by_cases z : y = 0
    · subst z
      rw [Pt_gcd_9, grd_t (by exact ⟨by omega, by omega⟩), if_pos (by omega), grd_t (by exact ⟨by omega, by omega⟩), if_pos rfl, gC_0 x0]
    have m0 : 0 ≤ x % y := Int.emod_nonneg x z
    have m1 : x % y < y := Int.emod_lt_of_pos x (by omega)
    have e1 : Pt_gcd_9 N (n + 1) x y c = Pt_gcd_9 N n y (x % y) (c + 1) := by
      rw [Pt_gcd_9, grd_t (by exact ⟨by omega, by omega⟩), if_pos (by omega), grd_t (by exact ⟨by omega, by omega⟩), if_neg z, grd_t (by exact ⟨by omega, by omega⟩), grd_t z, bnd, Int.tmod_eq_emod_of_nonneg x0]
    rw [e1, ← gC_step x0 (show 0 < y by omega)]
    by_cases s : x % y < 2 ^ k
    · exact cgcd_lp k y (x % y) n (c + 1) (by omega) y1 m0 s (by omega) (by omega) (by omega) (by omega)
    · match n, hn with
      | n + 1, hn =>
        have hr : 0 < x % y := by
          have : (0 : Int) < 2 ^ k := Int.pow_pos (by omega)
          omega
        have r0 : 0 ≤ y % (x % y) := Int.emod_nonneg y (by omega)
        have r2 : y % (x % y) < 2 ^ k := by
          have e : y % (x % y) = y - (x % y) := by
            have q : (y - x % y) % (x % y) = y % (x % y) := Int.sub_emod_right y (x % y)
            rw [← q]
            exact Int.emod_eq_of_lt (by omega) (by omega)
          omega
        have r1 : y % (x % y) < x % y := Int.emod_lt_of_pos y hr
        have e2 : Pt_gcd_9 N (n + 1) y (x % y) (c + 1) = Pt_gcd_9 N n (x % y) (y % (x % y)) (c + 1 + 1) := by
          rw [Pt_gcd_9, grd_t (by exact ⟨by omega, by omega⟩), if_pos (by omega), grd_t (by exact ⟨by omega, by omega⟩), if_neg (by omega), grd_t (by exact ⟨by omega, by omega⟩), grd_t (show ¬ x % y = 0 by omega), bnd, Int.tmod_eq_emod_of_nonneg y0]
        rw [e2, ← gC_step y0 hr]
        exact cgcd_lp k (x % y) (y % (x % y)) n (c + 1 + 1) (by omega) (by omega) r0 r2 (by omega) (by omega) (by omega) (by omega)
      | 0, hn => exact absurd hn (by omega)
theorem rgcd_lp {N : Nat} : ∀ (k : Nat) (x y : Int) (n : Nat), 0 ≤ x → x < 4611686018427387904 → 0 ≤ y → y < 2 ^ k → y < 4611686018427387904 → 2 * k + 1 ≤ n → r_commonOf_6 N n x y = some (gC x y)
  | _, _, _, 0, _, _, _, _, _, hn => absurd hn (by omega)
  | 0, x, y, n + 1, x0, x1, y0, yk, y1, hn => by
    have : y = 0 := by
      have : (2 : Int) ^ 0 = 1 := rfl
      omega
    subst this
    rw [r_commonOf_6, grd_t (by exact ⟨by omega, by omega⟩), if_pos rfl, gC_0 x0]
  | k + 1, x, y, n + 1, x0, x1, y0, yk, y1, hn => by
    have hp : (2 : Int) ^ (k + 1) = 2 ^ k * 2 := Int.pow_succ 2 k
    by_cases z : y = 0
    · subst z
      rw [r_commonOf_6, grd_t (by exact ⟨by omega, by omega⟩), if_pos rfl, gC_0 x0]
    have m0 : 0 ≤ x % y := Int.emod_nonneg x z
    have m1 : x % y < y := Int.emod_lt_of_pos x (by omega)
    have e1 : r_commonOf_6 N (n + 1) x y = r_commonOf_6 N n y (x % y) := by
      rw [r_commonOf_6, grd_t (by exact ⟨by omega, by omega⟩), if_neg z, grd_t (by exact ⟨by omega, by omega⟩), grd_t z, bnd, Int.tmod_eq_emod_of_nonneg x0]
    rw [e1, ← gC_step x0 (show 0 < y by omega)]
    by_cases s : x % y < 2 ^ k
    · exact rgcd_lp k y (x % y) n (by omega) y1 m0 s (by omega) (by omega)
    · match n, hn with
      | n + 1, hn =>
        have hr : 0 < x % y := by
          have : (0 : Int) < 2 ^ k := Int.pow_pos (by omega)
          omega
        have r0 : 0 ≤ y % (x % y) := Int.emod_nonneg y (by omega)
        have r2 : y % (x % y) < 2 ^ k := by
          have e : y % (x % y) = y - (x % y) := by
            have q : (y - x % y) % (x % y) = y % (x % y) := Int.sub_emod_right y (x % y)
            rw [← q]
            exact Int.emod_eq_of_lt (by omega) (by omega)
          omega
        have r1 : y % (x % y) < x % y := Int.emod_lt_of_pos y hr
        have e2 : r_commonOf_6 N (n + 1) y (x % y) = r_commonOf_6 N n (x % y) (y % (x % y)) := by
          rw [r_commonOf_6, grd_t (by exact ⟨by omega, by omega⟩), if_neg (by omega), grd_t (by exact ⟨by omega, by omega⟩), grd_t (show ¬ x % y = 0 by omega), bnd, Int.tmod_eq_emod_of_nonneg y0]
        rw [e2, ← gC_step y0 hr]
        exact rgcd_lp k (x % y) (y % (x % y)) n (by omega) (by omega) r0 r2 (by omega) (by omega)
      | 0, hn => exact absurd hn (by omega)
theorem c_gcd {N : Nat} (hN : 200 ≤ N) {x y : Int} (x0 : 0 ≤ x) (x1 : x < 4611686018427387904) (y0 : 0 < y) (y1 : y < 4611686018427387904) : Pt_gcd N x y = some (gC x y) := by
  rw [Pt_gcd, cgcd_lp 62 x y N 0 x0 x1 (by omega) (by exact y1) y1 (by omega) (by omega) (by omega), Pt_gcd_45]
  have h1 := gC_pos (x := x) y0
  have h2 := gC_le (x := x) y0
  rw [grd_t (by exact ⟨by omega, by omega⟩), if_neg (by omega)]
theorem r_gcd {N : Nat} (hN : 200 ≤ N) {x y : Int} (x0 : 0 ≤ x) (x1 : x < 4611686018427387904) (y0 : 0 < y) (y1 : y < 4611686018427387904) : r_commonOf N x y = some (gC x y) := by
  rw [r_commonOf, rgcd_lp 62 x y N x0 x1 (by omega) (by exact y1) y1 (by omega)]
