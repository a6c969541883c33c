/-! the scanner: bytes, the end of a text -/
def bA (τ : St) (k : Int) : Int := if 0 ≤ k ∧ k < fl τ 1 0 then el τ 97 k else 0
theorem c_byteAt {N : Nat} {π : Sh} {σ τ : St} (h : RTp σ τ) {k : Int} (hk : i32 k) : Sc_byteAt N π σ k = some (σ, bA τ k) := by
  obtain ⟨t1, t2, t3, t4⟩ := h
  rw [Sc_byteAt, grd_t hk, bA, t1]
  by_cases c : k < 0
  · rw [if_pos c, if_neg (by omega)]
  · rw [if_neg c, grd_t (by exact ⟨by omega, by omega⟩)]
    by_cases d : k < fl τ 1 0
    · rw [if_pos d, if_pos ⟨by omega, d⟩, grd_t (by exact ⟨by omega, by omega⟩), (t4 k (by omega) d).1]
    · rw [if_neg d, if_neg (by omega)]
theorem rr_byteAt {N : Nat} {σ τ : St} (h : RTp σ τ) {k : Int} (hk : i32 k) : r_byteAt N τ k = some (τ, bA τ k) := by
  obtain ⟨t1, t2, t3, t4⟩ := h
  rw [r_byteAt, grd_t hk, bA]
  by_cases c : k < 0
  · rw [if_pos c, if_neg (by omega)]
  · rw [if_neg c, grd_t (by exact ⟨by omega, by omega⟩)]
    by_cases d : k < fl τ 1 0
    · rw [if_pos d, if_pos ⟨by omega, d⟩, grd_t (by exact ⟨by omega, by omega⟩)]
    · rw [if_neg d, if_neg (by omega)]
theorem bA_rg {σ τ : St} (h : RTp σ τ) (k : Int) : -128 ≤ bA τ k ∧ bA τ k < 128 := by
  unfold bA
  split
  · rename_i c
    exact (h.2.2.2 k c.1 c.2).2
  · omega
theorem c_text_end {N : Nat} {π : Sh} {σ τ : St} (h : RTp σ τ) {k : Int} (hk : i32 k) : Sc_scanText_54 N π σ k = some (sf (sf σ 187 1 (k + 1)) 185 1 (if bA τ k = 34 then 4 else 5)) := by
  have r := bA_rg h k
  rw [Sc_scanText_54, c_byteAt h hk, Option.bind_some]
  show grd (i32 (bA τ k)) (if bA τ k = 34 then _ else _) = _
  rw [grd_t (by exact ⟨by omega, by omega⟩)]
  by_cases c : bA τ k = 34
  · rw [if_pos c, if_pos c, Sc_scanText_69, grd_t (by decide), if_neg (by decide)]
    rfl
  · rw [if_neg c, if_neg c, Sc_scanText_69, grd_t (by decide), if_pos rfl]
    rfl
theorem r_text_end {N : Nat} {σ τ : St} (h : RTp σ τ) {k : Int} (k0 : 0 ≤ k) (k1 : k ≤ fl τ 1 0) : r_lookText_54 N τ k = some (sf (sf τ 3 0 (if bA τ k = 34 then 5 else 7)) 5 0 (k + 1)) := by
  obtain ⟨t1, t2, t3, t4⟩ := id h
  rw [r_lookText_54, grd_t (by exact ⟨by omega, by omega⟩), grd_t (by exact ⟨by omega, by omega⟩)]
  by_cases d : k < fl τ 1 0
  · have q := (t4 k k0 d).2
    have eb : bA τ k = el τ 97 k := by rw [bA, if_pos ⟨k0, d⟩]
    rw [eb, if_pos d, grd_t (by exact ⟨by omega, by omega⟩), grd_t (by exact ⟨by omega, by omega⟩)]
    by_cases c : el τ 97 k = 34
    · rw [if_pos c, if_pos c]
      rfl
    · rw [if_neg c, if_neg c]
      rfl
  · have eb : bA τ k = 0 := by rw [bA, if_neg (by omega)]
    rw [eb, if_neg d]
    rfl
theorem both_text {N : Nat} {π : Sh} {σ τ : St} (hT : RTp σ τ) : ∀ (m n n' : Nat) (k : Int), 0 ≤ k → k + m = fl τ 1 0 → m < n → m < n' → ∃ j, k ≤ j ∧ j ≤ fl τ 1 0 ∧ (∀ i, k ≤ i → i < j → 32 ≤ el τ 97 i ∧ el τ 97 i ≤ 126 ∧ el τ 97 i ≠ 34) ∧ (j < fl τ 1 0 → el τ 97 j < 32 ∨ 126 < el τ 97 j ∨ el τ 97 j = 34) ∧ Sc_scanText_7 N π n σ k = some (sf (sf σ 187 1 (j + 1)) 185 1 (if bA τ j = 34 then 4 else 5)) ∧ r_lookText_7 N n' τ k = some (sf (sf τ 3 0 (if bA τ j = 34 then 5 else 7)) 5 0 (j + 1))
  | _, 0, _, _, _, _, h, _ => absurd h (by omega)
  | _, _ + 1, 0, _, _, _, _, h => absurd h (by omega)
  | 0, n + 1, n' + 1, k, k0, hm, _, _ => by
    obtain ⟨t1, t2, t3, t4⟩ := id hT
    refine ⟨k, by omega, by omega, fun i a b => by omega, fun c => by omega, ?_, ?_⟩
    · rw [Sc_scanText_7, grd_t (by exact ⟨by omega, by omega⟩), t1, grd_t (by exact ⟨by omega, by omega⟩), if_neg (by omega)]
      exact c_text_end hT ⟨by omega, by omega⟩
    · rw [r_lookText_7, grd_t (by exact ⟨by omega, by omega⟩), grd_t (by exact ⟨by omega, by omega⟩), if_neg (by omega)]
      exact r_text_end hT k0 (by omega)
  | m + 1, n + 1, n' + 1, k, k0, hm, hn, hn' => by
    obtain ⟨t1, t2, t3, t4⟩ := id hT
    obtain ⟨b1, b2, b3⟩ := t4 k k0 (by omega)
    have ce := c_text_end (N := N) (π := π) hT (k := k) ⟨by omega, by omega⟩
    have re := r_text_end (N := N) hT k0 (show k ≤ fl τ 1 0 by omega)
    by_cases c : 32 ≤ el τ 97 k ∧ el τ 97 k ≤ 126 ∧ el τ 97 k ≠ 34
    · obtain ⟨j, j1, j2, j3, j4, j5, j6⟩ := both_text (N := N) (π := π) hT m n n' (k + 1) (by omega) (by omega) (by omega) (by omega)
      refine ⟨j, by omega, j2, fun i a b => ?_, j4, ?_, ?_⟩
      · by_cases d : i = k
        · rw [d]
          exact c
        · exact j3 i (by omega) b
      · rw [Sc_scanText_7, grd_t (by exact ⟨by omega, by omega⟩), t1, grd_t (by exact ⟨by omega, by omega⟩), if_pos (by omega), grd_t (by exact ⟨by omega, by omega⟩), b1, grd_t (by exact ⟨by omega, by omega⟩), if_neg (by omega), if_neg (by omega), if_neg c.2.2]
        exact j5
      · rw [r_lookText_7, grd_t (by exact ⟨by omega, by omega⟩), grd_t (by exact ⟨by omega, by omega⟩), if_pos (by omega), grd_t (by exact ⟨by omega, by omega⟩), grd_t (by exact ⟨by omega, by omega⟩), if_neg c.2.2, if_neg (by omega), if_pos (by omega)]
        exact j6
    · refine ⟨k, by omega, by omega, fun i a b => by omega, fun _ => by omega, ?_, ?_⟩
      · rw [Sc_scanText_7, grd_t (by exact ⟨by omega, by omega⟩), t1, grd_t (by exact ⟨by omega, by omega⟩), if_pos (by omega), grd_t (by exact ⟨by omega, by omega⟩), b1, grd_t (by exact ⟨by omega, by omega⟩), ce]
        split
        · rfl
        split
        · rfl
        split
        · rfl
        · omega
      · rw [r_lookText_7, grd_t (by exact ⟨by omega, by omega⟩), grd_t (by exact ⟨by omega, by omega⟩), if_pos (by omega), grd_t (by exact ⟨by omega, by omega⟩), grd_t (by exact ⟨by omega, by omega⟩), re]
        split
        · rfl
        split
        · rfl
        split
        · omega
        · rfl
