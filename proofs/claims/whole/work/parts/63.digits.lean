/-! the scanner: digits, letters -/
abbrev isDg (b : Int) : Prop := 48 ≤ b ∧ b ≤ 57
abbrev isLt (b : Int) : Prop := 97 ≤ b ∧ b ≤ 122
theorem c_isDigit {N : Nat} {b : Int} (h : i32 b) : Sc_isDigit N b = some (if isDg b then 1 else 0) := by
  rw [Sc_isDigit, grd_t h]
  by_cases c : b < 48
  · rw [if_pos c, if_neg (by omega)]
  · rw [if_neg c]
    by_cases d : 57 < b
    · rw [if_pos d, if_neg (by omega)]
    · rw [if_neg d, if_pos (by omega)]
theorem c_isLetter {N : Nat} {b : Int} (h : i32 b) : Sc_isLetter N b = some (if isLt b then 1 else 0) := by
  rw [Sc_isLetter, grd_t h]
  by_cases c : b < 97
  · rw [if_pos c, if_neg (by omega)]
  · rw [if_neg c]
    by_cases d : 122 < b
    · rw [if_pos d, if_neg (by omega)]
    · rw [if_neg d, if_pos (by omega)]
theorem rr_isDigit {N : Nat} {b : Int} (h : i32 b) : r_isDigit N b = some (if isDg b then 1 else 0) := by
  rw [r_isDigit, grd_t h]
  by_cases c : b < 48
  · rw [if_pos c, if_neg (by omega)]
  · rw [if_neg c]
    by_cases d : 57 < b
    · rw [if_pos d, if_neg (by omega)]
    · rw [if_neg d, if_pos (by omega)]
theorem rr_isLow {N : Nat} {b : Int} (h : i32 b) : r_isLow N b = some (if isLt b then 1 else 0) := by
  rw [r_isLow, grd_t h]
  by_cases c : b < 97
  · rw [if_pos c, if_neg (by omega)]
  · rw [if_neg c]
    by_cases d : 122 < b
    · rw [if_pos d, if_neg (by omega)]
    · rw [if_neg d, if_pos (by omega)]
/-- where digits end -/
theorem c_digits {N : Nat} {π : Sh} {σ τ : St} (hT : RTp σ τ) : ∀ (m n : Nat) (k : Int), 0 ≤ k → k + m = fl τ 1 0 → m < n → ∃ j, k ≤ j ∧ j ≤ fl τ 1 0 ∧ (∀ i, k ≤ i → i < j → isDg (el τ 97 i)) ∧ (j < fl τ 1 0 → ¬ isDg (el τ 97 j)) ∧ Sc_digitsBehind_2 N π n σ k = some (σ, j)
  | _, 0, _, _, _, h => absurd h (by omega)
  | 0, n + 1, k, k0, hm, _ => by
    obtain ⟨t1, t2, t3, t4⟩ := id hT
    refine ⟨k, by omega, by omega, fun i a b => by omega, fun c => by omega, ?_⟩
    rw [Sc_digitsBehind_2, grd_t (by exact ⟨by omega, by omega⟩), t1, grd_t (by exact ⟨by omega, by omega⟩), if_neg (by omega)]
  | m + 1, n + 1, k, k0, hm, hn => by
    obtain ⟨t1, t2, t3, t4⟩ := id hT
    obtain ⟨b1, b2, b3⟩ := t4 k k0 (by omega)
    have hb : i32 (el τ 97 k) := ⟨by omega, by omega⟩
    by_cases c : isDg (el τ 97 k)
    · obtain ⟨j, j1, j2, j3, j4, j5⟩ := c_digits (N := N) (π := π) hT m n (k + 1) (by omega) (by omega) (by omega)
      refine ⟨j, by omega, j2, fun i a b => ?_, j4, ?_⟩
      · by_cases d : i = k
        · rw [d]
          exact c
        · exact j3 i (by omega) b
      · rw [Sc_digitsBehind_2, grd_t (by exact ⟨by omega, by omega⟩), t1, grd_t (by exact ⟨by omega, by omega⟩), if_pos (by omega), grd_t (by exact ⟨by omega, by omega⟩), b1, c_isDigit hb, if_pos c, Option.bind_some, grd_t (by decide), if_neg (by decide)]
        exact j5
    · refine ⟨k, by omega, by omega, fun i a b => by omega, fun _ => c, ?_⟩
      rw [Sc_digitsBehind_2, grd_t (by exact ⟨by omega, by omega⟩), t1, grd_t (by exact ⟨by omega, by omega⟩), if_pos (by omega), grd_t (by exact ⟨by omega, by omega⟩), b1, c_isDigit hb, if_neg c, Option.bind_some, grd_t (by decide), if_pos rfl]
