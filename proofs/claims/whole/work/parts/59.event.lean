/-! event, letter, heard, heardLetter -/
section SE
variable {PR : PRt} {DR : DRt} {N n : Nat}
theorem st_letter (hN : 64 ≤ N) (hI : Inn PR DR) (hn : n < 512) : St_letter N (RO PR DR RWd n) (RO PR DR RWd (n + 1)) := by
  intro π σ τ x1 x2 h i1 i2
  have hu := h.up hI hn
  obtain ⟨h1, h2, h3, h4, h5, h6, h7, h8⟩ := id h
  obtain ⟨k1, k2, k3, k4, k5, k6⟩ := h6
  by_cases c : 0 ≤ x1 ∧ x1 < fl τ 121 0
  · obtain ⟨l, l1, l2, l3, l4, l5⟩ := (k6 x1 (by omega) c.2).2.2.2.1
    refine ⟨σ, τ, if 0 ≤ x2 ∧ x2 < l.length then l.getD x2.toNat 0 + 96 else -1, ?_, ?_, hu⟩
    · have e : Ka_letterAt N π σ x1 x2 = some (σ, if 0 ≤ x2 ∧ x2 < l.length then l.getD x2.toNat 0 + 96 else -1) := by
        rw [Ka_letterAt, grd_t i1, if_neg (by omega), k1, grd_t (by exact ⟨by omega, by omega⟩), if_pos c.2, grd_t i2]
        by_cases d : x2 < 0
        · rw [if_pos d, if_neg (by omega)]
        · rw [if_neg d, grd_t (by exact ⟨by omega, by omega⟩), l3, c_letters hN l1 l2, Option.bind_some, grd_t (show i32 (l.length : Int) from ⟨by omega, by omega⟩)]
          by_cases q : x2 < l.length
          · rw [if_pos q, if_pos ⟨by omega, q⟩, c_letAt l1 l2 (by omega) q]
          · rw [if_neg q, if_neg (by omega)]
      rw [Cs_letter, e]
      rfl
    · rw [r_letter, grd_t i1, if_neg (by omega), grd_t (by exact ⟨by omega, by omega⟩), if_pos c.2, grd_t (by exact ⟨by omega, by omega⟩), l4, l5, r_letAt hN l1 l2 i2]
      rfl
  · refine ⟨σ, τ, -1, ?_, ?_, hu⟩
    · have e : Ka_letterAt N π σ x1 x2 = some (σ, -1) := by
        rw [Ka_letterAt, grd_t i1]
        by_cases d : x1 < 0
        · rw [if_pos d]
        · rw [if_neg d, k1, grd_t (by exact ⟨by omega, by omega⟩), if_neg (by omega)]
      rw [Cs_letter, e]
      rfl
    · rw [r_letter, grd_t i1]
      by_cases d : x1 < 0
      · rw [if_pos d]
        rfl
      · rw [if_neg d, grd_t (by exact ⟨by omega, by omega⟩), if_neg (by omega)]
        rfl
theorem st_heardLetter (hN : 64 ≤ N) (hI : Inn PR DR) (hn : n < 512) : St_heardLetter N (RO PR DR RWd n) (RO PR DR RWd (n + 1)) := by
  intro π σ τ x1 x2 h i1 i2
  have hu := h.up hI hn
  obtain ⟨h1, h2, h3, h4, h5, h6, h7, h8⟩ := id h
  obtain ⟨k1, k2, k3, k6⟩ := h7
  by_cases c : 0 ≤ x1 ∧ x1 < fl τ 129 0
  · obtain ⟨l, l1, l2, l3, l4, l5⟩ := (k6 x1 (by omega) c.2).2.2.2.2.1
    refine ⟨σ, τ, if 0 ≤ x2 ∧ x2 < l.length then l.getD x2.toNat 0 + 96 else -1, ?_, ?_, hu⟩
    · have e : Kh_letterAt N π σ x1 x2 = some (σ, if 0 ≤ x2 ∧ x2 < l.length then l.getD x2.toNat 0 + 96 else -1) := by
        rw [Kh_letterAt, grd_t i1, if_neg (by omega), k1, grd_t (by exact ⟨by omega, by omega⟩), if_pos c.2, grd_t i2]
        by_cases d : x2 < 0
        · rw [if_pos d, if_neg (by omega)]
        · rw [if_neg d, grd_t (by exact ⟨by omega, by omega⟩), l3, c_letters hN l1 l2, Option.bind_some, grd_t (show i32 (l.length : Int) from ⟨by omega, by omega⟩)]
          by_cases q : x2 < l.length
          · rw [if_pos q, if_pos ⟨by omega, q⟩, c_letAt l1 l2 (by omega) q]
          · rw [if_neg q, if_neg (by omega)]
      rw [Cs_heardLetter, e]
      rfl
    · rw [r_heardLetter, grd_t i1, if_neg (by omega), grd_t (by exact ⟨by omega, by omega⟩), if_pos c.2, grd_t (by exact ⟨by omega, by omega⟩), l4, l5, r_letAt hN l1 l2 i2]
      rfl
  · refine ⟨σ, τ, -1, ?_, ?_, hu⟩
    · have e : Kh_letterAt N π σ x1 x2 = some (σ, -1) := by
        rw [Kh_letterAt, grd_t i1]
        by_cases d : x1 < 0
        · rw [if_pos d]
        · rw [if_neg d, k1, grd_t (by exact ⟨by omega, by omega⟩), if_neg (by omega)]
      rw [Cs_heardLetter, e]
      rfl
    · rw [r_heardLetter, grd_t i1]
      by_cases d : x1 < 0
      · rw [if_pos d]
        rfl
      · rw [if_neg d, grd_t (by exact ⟨by omega, by omega⟩), if_neg (by omega)]
        rfl
theorem low_r (hN : 200 ≤ N) {x g : Int} (x0 : 0 ≤ x) (x1 : x < 1000000000) (g0 : 0 < g) (g1 : g < 1000000000) : r_lowest N x g 0 = some (x / gC x g) ∧ r_lowest N x g 1 = some (g / gC x g) := by
  have h1 := gC_pos (x := x) g0
  have h2 := gC_le (x := x) g0
  rw [r_lowest, r_lowest, r_gcd hN x0 (by omega) g0 (by omega)]
  constructor
  · show grd (i32 0) _ = _
    rw [grd_t (by decide), if_pos rfl, r_lowest_17, grd_t (by exact ⟨by omega, by omega⟩), grd_t (by exact ⟨by omega, by omega⟩), grd_t (by omega), Int.tdiv_eq_ediv_of_nonneg x0]
  · show grd (i32 1) _ = _
    rw [grd_t (by decide), if_neg (by decide), r_lowest_17, grd_t (by exact ⟨by omega, by omega⟩), grd_t (by exact ⟨by omega, by omega⟩), grd_t (by omega), Int.tdiv_eq_ediv_of_nonneg (by omega)]
theorem time_Ka (hN : 200 ≤ N) {π : Sh} {σ : St} {k x : Int} (k0 : 0 ≤ k) (k1 : k < 400) (b0 : 0 ≤ el σ 27 k) (b1 : el σ 27 k < 1000000000) (l0 : 0 ≤ el σ 28 k) (l1 : el σ 28 k < 1000000000) (g0 : 0 < el σ 29 k) (g1 : el σ 29 k < 1000000000) : Ka_time N π σ k 0 = some (σ, el σ 27 k / gC (el σ 27 k) (el σ 29 k)) ∧ Ka_time N π σ k 1 = some (σ, el σ 29 k / gC (el σ 27 k) (el σ 29 k)) ∧ Ka_time N π σ k 2 = some (σ, el σ 28 k / gC (el σ 28 k) (el σ 29 k)) ∧ Ka_time N π σ k 3 = some (σ, el σ 29 k / gC (el σ 28 k) (el σ 29 k)) := by
  have h1 := gC_pos (x := el σ 27 k) g0
  have h2 := gC_le (x := el σ 27 k) g0
  have h3 := gC_pos (x := el σ 28 k) g0
  have h4 := gC_le (x := el σ 28 k) g0
  refine ⟨?_, ?_, ?_, ?_⟩
  · rw [Ka_time, grd_t (by decide), if_pos (by decide), grd_t (by exact ⟨k0, k1⟩), Ka_time_20, grd_t (by exact ⟨k0, k1⟩), c_gcd hN (by omega) (by omega) g0 (by omega)]
    show grd (i32 0) _ = _
    rw [grd_t (by decide), grd_t (by decide), if_pos (by decide), Ka_time_49, grd_t (by exact ⟨by omega, by omega⟩), grd_t (by exact ⟨by omega, by omega⟩), grd_t (by omega), Int.tdiv_eq_ediv_of_nonneg (by omega)]
  · rw [Ka_time, grd_t (by decide), if_pos (by decide), grd_t (by exact ⟨k0, k1⟩), Ka_time_20, grd_t (by exact ⟨k0, k1⟩), c_gcd hN (by omega) (by omega) g0 (by omega)]
    show grd (i32 1) _ = _
    rw [grd_t (by decide), grd_t (by decide), if_neg (by decide), Ka_time_49, grd_t (by exact ⟨by omega, by omega⟩), grd_t (by exact ⟨by omega, by omega⟩), grd_t (by omega), Int.tdiv_eq_ediv_of_nonneg (by omega)]
  · rw [Ka_time, grd_t (by decide), if_neg (by decide), grd_t (by exact ⟨k0, k1⟩), Ka_time_20, grd_t (by exact ⟨k0, k1⟩), c_gcd hN (by omega) (by omega) g0 (by omega)]
    show grd (i32 2) _ = _
    rw [grd_t (by decide), grd_t (by decide), if_pos (by decide), Ka_time_49, grd_t (by exact ⟨by omega, by omega⟩), grd_t (by exact ⟨by omega, by omega⟩), grd_t (by omega), Int.tdiv_eq_ediv_of_nonneg (by omega)]
  · rw [Ka_time, grd_t (by decide), if_neg (by decide), grd_t (by exact ⟨k0, k1⟩), Ka_time_20, grd_t (by exact ⟨k0, k1⟩), c_gcd hN (by omega) (by omega) g0 (by omega)]
    show grd (i32 3) _ = _
    rw [grd_t (by decide), grd_t (by decide), if_neg (by decide), Ka_time_49, grd_t (by exact ⟨by omega, by omega⟩), grd_t (by exact ⟨by omega, by omega⟩), grd_t (by omega), Int.tdiv_eq_ediv_of_nonneg (by omega)]
theorem time_Kh (hN : 200 ≤ N) {π : Sh} {σ : St} {k x : Int} (k0 : 0 ≤ k) (k1 : k < 400) (b0 : 0 ≤ el σ 36 k) (b1 : el σ 36 k < 1000000000) (l0 : 0 ≤ el σ 37 k) (l1 : el σ 37 k < 1000000000) (g0 : 0 < el σ 38 k) (g1 : el σ 38 k < 1000000000) : Kh_time N π σ k 0 = some (σ, el σ 36 k / gC (el σ 36 k) (el σ 38 k)) ∧ Kh_time N π σ k 1 = some (σ, el σ 38 k / gC (el σ 36 k) (el σ 38 k)) ∧ Kh_time N π σ k 2 = some (σ, el σ 37 k / gC (el σ 37 k) (el σ 38 k)) ∧ Kh_time N π σ k 3 = some (σ, el σ 38 k / gC (el σ 37 k) (el σ 38 k)) := by
  have h1 := gC_pos (x := el σ 36 k) g0
  have h2 := gC_le (x := el σ 36 k) g0
  have h3 := gC_pos (x := el σ 37 k) g0
  have h4 := gC_le (x := el σ 37 k) g0
  refine ⟨?_, ?_, ?_, ?_⟩
  · rw [Kh_time, grd_t (by decide), if_pos (by decide), grd_t (by exact ⟨k0, k1⟩), Kh_time_20, grd_t (by exact ⟨k0, k1⟩), c_gcd hN (by omega) (by omega) g0 (by omega)]
    show grd (i32 0) _ = _
    rw [grd_t (by decide), grd_t (by decide), if_pos (by decide), Kh_time_49, grd_t (by exact ⟨by omega, by omega⟩), grd_t (by exact ⟨by omega, by omega⟩), grd_t (by omega), Int.tdiv_eq_ediv_of_nonneg (by omega)]
  · rw [Kh_time, grd_t (by decide), if_pos (by decide), grd_t (by exact ⟨k0, k1⟩), Kh_time_20, grd_t (by exact ⟨k0, k1⟩), c_gcd hN (by omega) (by omega) g0 (by omega)]
    show grd (i32 1) _ = _
    rw [grd_t (by decide), grd_t (by decide), if_neg (by decide), Kh_time_49, grd_t (by exact ⟨by omega, by omega⟩), grd_t (by exact ⟨by omega, by omega⟩), grd_t (by omega), Int.tdiv_eq_ediv_of_nonneg (by omega)]
  · rw [Kh_time, grd_t (by decide), if_neg (by decide), grd_t (by exact ⟨k0, k1⟩), Kh_time_20, grd_t (by exact ⟨k0, k1⟩), c_gcd hN (by omega) (by omega) g0 (by omega)]
    show grd (i32 2) _ = _
    rw [grd_t (by decide), grd_t (by decide), if_pos (by decide), Kh_time_49, grd_t (by exact ⟨by omega, by omega⟩), grd_t (by exact ⟨by omega, by omega⟩), grd_t (by omega), Int.tdiv_eq_ediv_of_nonneg (by omega)]
  · rw [Kh_time, grd_t (by decide), if_neg (by decide), grd_t (by exact ⟨k0, k1⟩), Kh_time_20, grd_t (by exact ⟨k0, k1⟩), c_gcd hN (by omega) (by omega) g0 (by omega)]
    show grd (i32 3) _ = _
    rw [grd_t (by decide), grd_t (by decide), if_neg (by decide), Kh_time_49, grd_t (by exact ⟨by omega, by omega⟩), grd_t (by exact ⟨by omega, by omega⟩), grd_t (by omega), Int.tdiv_eq_ediv_of_nonneg (by omega)]
theorem has_4 {x : Int} (h0 : 0 ≤ x) (h3 : x ≤ 3) : i32 (iand x 2) ∧ (iand x 2 = 2 ↔ 2 ≤ x) ∧ ishr x 1 = x / 2 := by
  rcases (show x = 0 ∨ x = 1 ∨ x = 2 ∨ x = 3 by omega) with rfl | rfl | rfl | rfl <;> decide
theorem st_event (hN : 200 ≤ N) (hI : Inn PR DR) (hn : n < 512) : St_event N (RO PR DR RWd n) (RO PR DR RWd (n + 1)) := by
  intro π σ τ x1 x2 h i1 i2
  have hu := h.up hI hn
  obtain ⟨h1, h2, h3, h4, h5, h6, h7, h8⟩ := id h
  obtain ⟨k1, k2, k3, k4, k5, k6⟩ := h6
  by_cases c : 0 ≤ x1 ∧ x1 < fl τ 121 0
  · have k4 := k4 (by omega)
    have ci : inb x1 400 := ⟨c.1, by omega⟩
    obtain ⟨⟨b1, b2, b3⟩, ⟨b4, b5, b6⟩, b7, ⟨l, l1, l2, l3, l4, l5⟩, b8, b9, b10, b11, b12⟩ := k6 x1 c.1 c.2
    obtain ⟨t0, t1, t2, t3⟩ := time_Ka (N := N) (π := π) (σ := σ) (k := x1) (x := 0) hN c.1 ci.2 (by omega) (by omega) (by omega) (by omega) (by omega) (by omega)
    obtain ⟨q1, q2⟩ := low_r (N := N) (x := el τ 24 x1) (g := fl τ 128 0) hN (by omega) (by omega) (by omega) (by omega)
    obtain ⟨q3, q4⟩ := low_r (N := N) (x := el τ 23 x1) (g := fl τ 128 0) hN (by omega) (by omega) (by omega) (by omega)
    obtain ⟨v1, v2, v3⟩ := has_4 b8 b9
    rw [b1, b7] at t0 t1
    rw [b4, b7] at t2 t3
    have gi : i32 (fl τ 128 0) := ⟨by omega, by omega⟩
    by_cases c0 : x2 = 0
    · refine ⟨σ, τ, el τ 24 x1 / gC (el τ 24 x1) (fl τ 128 0), ?_, ?_, hu⟩
      · rw [Cs_event, grd_t i1, if_neg (by omega), k1, grd_t (by exact ⟨by omega, by omega⟩), if_pos c.2, grd_t i2, if_pos c0]
        rw [c0, t0]
        rfl
      · rw [r_event, grd_t i1, if_neg (by omega), grd_t (by exact ⟨by omega, by omega⟩), if_pos c.2, grd_t i2, if_pos c0, grd_t ci, grd_t gi]
        rw [if_neg (by omega), r_event_77, q1]
        rfl
    by_cases c1 : x2 = 1
    · refine ⟨σ, τ, fl τ 128 0 / gC (el τ 24 x1) (fl τ 128 0), ?_, ?_, hu⟩
      · rw [Cs_event, grd_t i1, if_neg (by omega), k1, grd_t (by exact ⟨by omega, by omega⟩), if_pos c.2, grd_t i2, if_neg c0, if_pos c1]
        rw [c1, t1]
        rfl
      · rw [r_event, grd_t i1, if_neg (by omega), grd_t (by exact ⟨by omega, by omega⟩), if_pos c.2, grd_t i2, if_neg c0, if_pos c1, grd_t ci, grd_t gi]
        rw [if_pos (by omega), r_event_77, q2]
        rfl
    by_cases c2 : x2 = 2
    · refine ⟨σ, τ, el τ 23 x1 / gC (el τ 23 x1) (fl τ 128 0), ?_, ?_, hu⟩
      · rw [Cs_event, grd_t i1, if_neg (by omega), k1, grd_t (by exact ⟨by omega, by omega⟩), if_pos c.2, grd_t i2, if_neg c0, if_neg c1, if_pos c2]
        rw [c2, t2]
        rfl
      · rw [r_event, grd_t i1, if_neg (by omega), grd_t (by exact ⟨by omega, by omega⟩), if_pos c.2, grd_t i2, if_neg c0, if_neg c1, if_pos c2, grd_t ci, grd_t gi]
        rw [if_neg (by omega), r_event_102, q3]
        rfl
    by_cases c3 : x2 = 3
    · refine ⟨σ, τ, fl τ 128 0 / gC (el τ 23 x1) (fl τ 128 0), ?_, ?_, hu⟩
      · rw [Cs_event, grd_t i1, if_neg (by omega), k1, grd_t (by exact ⟨by omega, by omega⟩), if_pos c.2, grd_t i2, if_neg c0, if_neg c1, if_neg c2, if_pos c3]
        rw [c3, t3]
        rfl
      · rw [r_event, grd_t i1, if_neg (by omega), grd_t (by exact ⟨by omega, by omega⟩), if_pos c.2, grd_t i2, if_neg c0, if_neg c1, if_neg c2, if_pos c3, grd_t ci, grd_t gi]
        rw [if_pos (by omega), r_event_102, q4]
        rfl
    by_cases c4 : x2 = 4
    · refine ⟨σ, τ, if 2 ≤ el τ 19 x1 then el τ 20 x1 else 0, ?_, ?_, hu⟩
      · rw [Cs_event, grd_t i1, if_neg (by omega), k1, grd_t (by exact ⟨by omega, by omega⟩), if_pos c.2, grd_t i2, if_neg c0, if_neg c1, if_neg c2, if_neg c3, if_pos c4, grd_t ci, b11]
      · rw [r_event, grd_t i1, if_neg (by omega), grd_t (by exact ⟨by omega, by omega⟩), if_pos c.2, grd_t i2, if_neg c0, if_neg c1, if_neg c2, if_neg c3, if_pos c4, grd_t ci, grd_t v1]
        by_cases d : 2 ≤ el τ 19 x1
        · rw [if_pos (v2.mpr d), if_pos d]
        · rw [if_neg (fun z => d (v2.mp z)), if_neg d]
    by_cases c5 : x2 = 5
    · refine ⟨σ, τ, el τ 19 x1 / 2, ?_, ?_, hu⟩
      · rw [Cs_event, grd_t i1, if_neg (by omega), k1, grd_t (by exact ⟨by omega, by omega⟩), if_pos c.2, grd_t i2, if_neg c0, if_neg c1, if_neg c2, if_neg c3, if_neg c4, if_pos c5, grd_t ci, b10]
        rw [grd_t (by exact ⟨by omega, by omega⟩)]
        by_cases d : el τ 19 x1 / 2 = 0
        · rw [if_pos d, d]
        · rw [if_neg d, show el τ 19 x1 / 2 = 1 by omega]
      · rw [r_event, grd_t i1, if_neg (by omega), grd_t (by exact ⟨by omega, by omega⟩), if_pos c.2, grd_t i2, if_neg c0, if_neg c1, if_neg c2, if_neg c3, if_neg c4, if_pos c5, grd_t ci, v3]
    by_cases c6 : x2 = 6
    · refine ⟨σ, τ, (l.length : Int), ?_, ?_, hu⟩
      · rw [Cs_event, grd_t i1, if_neg (by omega), k1, grd_t (by exact ⟨by omega, by omega⟩), if_pos c.2, grd_t i2, if_neg c0, if_neg c1, if_neg c2, if_neg c3, if_neg c4, if_neg c5, if_pos c6, grd_t ci, l3, c_letters (by omega) l1 l2]
        rfl
      · rw [r_event, grd_t i1, if_neg (by omega), grd_t (by exact ⟨by omega, by omega⟩), if_pos c.2, grd_t i2, if_neg c0, if_neg c1, if_neg c2, if_neg c3, if_neg c4, if_neg c5, if_pos c6, grd_t ci, l4, l5, r_lets (by omega) l1 l2]
        rfl
    refine ⟨σ, τ, -1, ?_, ?_, hu⟩
    · rw [Cs_event, grd_t i1, if_neg (by omega), k1, grd_t (by exact ⟨by omega, by omega⟩), if_pos c.2, grd_t i2, if_neg c0, if_neg c1, if_neg c2, if_neg c3, if_neg c4, if_neg c5, if_neg c6]
    · rw [r_event, grd_t i1, if_neg (by omega), grd_t (by exact ⟨by omega, by omega⟩), if_pos c.2, grd_t i2, if_neg c0, if_neg c1, if_neg c2, if_neg c3, if_neg c4, if_neg c5, if_neg c6]
  · refine ⟨σ, τ, -1, ?_, ?_, hu⟩
    · rw [Cs_event, grd_t i1]
      by_cases d : x1 < 0
      · rw [if_pos d]
      · rw [if_neg d, k1, grd_t (by exact ⟨by omega, by omega⟩), if_neg (by omega)]
    · rw [r_event, grd_t i1]
      by_cases d : x1 < 0
      · rw [if_pos d]
      · rw [if_neg d, grd_t (by exact ⟨by omega, by omega⟩), if_neg (by omega)]
theorem st_heard (hN : 200 ≤ N) (hI : Inn PR DR) (hn : n < 512) : St_heard N (RO PR DR RWd n) (RO PR DR RWd (n + 1)) := by
  intro π σ τ x1 x2 h i1 i2
  have hu := h.up hI hn
  obtain ⟨h1, h2, h3, h4, h5, h6, h7, h8⟩ := id h
  obtain ⟨k1, k2, k3, k6⟩ := h7
  by_cases c : 0 ≤ x1 ∧ x1 < fl τ 129 0
  · have ci : inb x1 400 := ⟨c.1, by omega⟩
    obtain ⟨⟨g1, g2, g3⟩, ⟨b1, b2, b3⟩, ⟨b4, b5, b6⟩, ⟨y1, y2, y3, y4⟩, ⟨l, l1, l2, l3, l4, l5⟩, b8, b9, b10, b11, b12⟩ := k6 x1 c.1 c.2
    obtain ⟨t2, t3, t4, t5⟩ := time_Kh (N := N) (π := π) (σ := σ) (k := x1) (x := 0) hN c.1 ci.2 (by omega) (by omega) (by omega) (by omega) (by omega) (by omega)
    obtain ⟨q2, q3⟩ := low_r (N := N) (x := el τ 15 x1) (g := el τ 16 x1) hN (by omega) (by omega) (by omega) (by omega)
    obtain ⟨q4, q5⟩ := low_r (N := N) (x := el τ 14 x1) (g := el τ 16 x1) hN (by omega) (by omega) (by omega) (by omega)
    obtain ⟨v1, v2, v3⟩ := has_4 b8 b9
    rw [b1, g3] at t2 t3
    rw [b4, g3] at t4 t5
    have gi : i32 (el τ 16 x1) := ⟨by omega, by omega⟩
    by_cases c0 : x2 = 0
    · refine ⟨σ, τ, el τ 18 x1, ?_, ?_, hu⟩
      · rw [Cs_heard, grd_t i1, if_neg (by omega), k1, grd_t (by exact ⟨by omega, by omega⟩), if_pos c.2, grd_t i2, if_pos c0, grd_t ci, y1]
      · rw [r_heard, grd_t i1, if_neg (by omega), grd_t (by exact ⟨by omega, by omega⟩), if_pos c.2, grd_t i2, if_pos c0, grd_t ci]
    by_cases c1 : x2 = 1
    · refine ⟨σ, τ, el τ 17 x1, ?_, ?_, hu⟩
      · rw [Cs_heard, grd_t i1, if_neg (by omega), k1, grd_t (by exact ⟨by omega, by omega⟩), if_pos c.2, grd_t i2, if_neg c0, if_pos c1, grd_t ci, y3]
      · rw [r_heard, grd_t i1, if_neg (by omega), grd_t (by exact ⟨by omega, by omega⟩), if_pos c.2, grd_t i2, if_neg c0, if_pos c1, grd_t ci]
    by_cases c2 : x2 = 2
    · refine ⟨σ, τ, el τ 15 x1 / gC (el τ 15 x1) (el τ 16 x1), ?_, ?_, hu⟩
      · rw [Cs_heard, grd_t i1, if_neg (by omega), k1, grd_t (by exact ⟨by omega, by omega⟩), if_pos c.2, grd_t i2, if_neg c0, if_neg c1, if_pos c2]
        rw [c2, show (2 : Int) - 2 = 0 by decide, t2]
        rfl
      · rw [r_heard, grd_t i1, if_neg (by omega), grd_t (by exact ⟨by omega, by omega⟩), if_pos c.2, grd_t i2, if_neg c0, if_neg c1, if_pos c2, grd_t ci, grd_t gi]
        rw [if_neg (by omega), r_heard_97, q2]
        rfl
    by_cases c3 : x2 = 3
    · refine ⟨σ, τ, el τ 16 x1 / gC (el τ 15 x1) (el τ 16 x1), ?_, ?_, hu⟩
      · rw [Cs_heard, grd_t i1, if_neg (by omega), k1, grd_t (by exact ⟨by omega, by omega⟩), if_pos c.2, grd_t i2, if_neg c0, if_neg c1, if_neg c2, if_pos c3]
        rw [c3, show (3 : Int) - 2 = 1 by decide, t3]
        rfl
      · rw [r_heard, grd_t i1, if_neg (by omega), grd_t (by exact ⟨by omega, by omega⟩), if_pos c.2, grd_t i2, if_neg c0, if_neg c1, if_neg c2, if_pos c3, grd_t ci, grd_t gi]
        rw [if_pos (by omega), r_heard_97, q3]
        rfl
    by_cases c4 : x2 = 4
    · refine ⟨σ, τ, el τ 14 x1 / gC (el τ 14 x1) (el τ 16 x1), ?_, ?_, hu⟩
      · rw [Cs_heard, grd_t i1, if_neg (by omega), k1, grd_t (by exact ⟨by omega, by omega⟩), if_pos c.2, grd_t i2, if_neg c0, if_neg c1, if_neg c2, if_neg c3, if_pos c4]
        rw [c4, show (4 : Int) - 2 = 2 by decide, t4]
        rfl
      · rw [r_heard, grd_t i1, if_neg (by omega), grd_t (by exact ⟨by omega, by omega⟩), if_pos c.2, grd_t i2, if_neg c0, if_neg c1, if_neg c2, if_neg c3, if_pos c4, grd_t ci, grd_t gi]
        rw [if_neg (by omega), r_heard_124, q4]
        rfl
    by_cases c5 : x2 = 5
    · refine ⟨σ, τ, el τ 16 x1 / gC (el τ 14 x1) (el τ 16 x1), ?_, ?_, hu⟩
      · rw [Cs_heard, grd_t i1, if_neg (by omega), k1, grd_t (by exact ⟨by omega, by omega⟩), if_pos c.2, grd_t i2, if_neg c0, if_neg c1, if_neg c2, if_neg c3, if_neg c4, if_pos c5]
        rw [c5, show (5 : Int) - 2 = 3 by decide, t5]
        rfl
      · rw [r_heard, grd_t i1, if_neg (by omega), grd_t (by exact ⟨by omega, by omega⟩), if_pos c.2, grd_t i2, if_neg c0, if_neg c1, if_neg c2, if_neg c3, if_neg c4, if_pos c5, grd_t ci, grd_t gi]
        rw [if_pos (by omega), r_heard_124, q5]
        rfl
    by_cases c6 : x2 = 6
    · refine ⟨σ, τ, if 2 ≤ el τ 10 x1 then el τ 11 x1 else 0, ?_, ?_, hu⟩
      · rw [Cs_heard, grd_t i1, if_neg (by omega), k1, grd_t (by exact ⟨by omega, by omega⟩), if_pos c.2, grd_t i2, if_neg c0, if_neg c1, if_neg c2, if_neg c3, if_neg c4, if_neg c5, if_pos c6, grd_t ci, b11]
      · rw [r_heard, grd_t i1, if_neg (by omega), grd_t (by exact ⟨by omega, by omega⟩), if_pos c.2, grd_t i2, if_neg c0, if_neg c1, if_neg c2, if_neg c3, if_neg c4, if_neg c5, if_pos c6, grd_t ci, grd_t v1]
        by_cases d : 2 ≤ el τ 10 x1
        · rw [if_pos (v2.mpr d), if_pos d]
        · rw [if_neg (fun z => d (v2.mp z)), if_neg d]
    by_cases c7 : x2 = 7
    · refine ⟨σ, τ, (l.length : Int), ?_, ?_, hu⟩
      · rw [Cs_heard, grd_t i1, if_neg (by omega), k1, grd_t (by exact ⟨by omega, by omega⟩), if_pos c.2, grd_t i2, if_neg c0, if_neg c1, if_neg c2, if_neg c3, if_neg c4, if_neg c5, if_neg c6, if_pos c7, grd_t ci, l3, c_letters (by omega) l1 l2]
        rfl
      · rw [r_heard, grd_t i1, if_neg (by omega), grd_t (by exact ⟨by omega, by omega⟩), if_pos c.2, grd_t i2, if_neg c0, if_neg c1, if_neg c2, if_neg c3, if_neg c4, if_neg c5, if_neg c6, if_pos c7, grd_t ci, l4, l5, r_lets (by omega) l1 l2]
        rfl
    refine ⟨σ, τ, -1, ?_, ?_, hu⟩
    · rw [Cs_heard, grd_t i1, if_neg (by omega), k1, grd_t (by exact ⟨by omega, by omega⟩), if_pos c.2, grd_t i2, if_neg c0, if_neg c1, if_neg c2, if_neg c3, if_neg c4, if_neg c5, if_neg c6, if_neg c7]
    · rw [r_heard, grd_t i1, if_neg (by omega), grd_t (by exact ⟨by omega, by omega⟩), if_pos c.2, grd_t i2, if_neg c0, if_neg c1, if_neg c2, if_neg c3, if_neg c4, if_neg c5, if_neg c6, if_neg c7]
  · refine ⟨σ, τ, -1, ?_, ?_, hu⟩
    · rw [Cs_heard, grd_t i1]
      by_cases d : x1 < 0
      · rw [if_pos d]
      · rw [if_neg d, k1, grd_t (by exact ⟨by omega, by omega⟩), if_neg (by omega)]
    · rw [r_heard, grd_t i1]
      by_cases d : x1 < 0
      · rw [if_pos d]
      · rw [if_neg d, grd_t (by exact ⟨by omega, by omega⟩), if_neg (by omega)]
end SE
