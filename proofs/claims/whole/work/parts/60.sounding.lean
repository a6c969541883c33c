/-! which tracks sound -/
def anyA (τ : St) : Nat → Int
  | 0 => 0
  | m + 1 => if el τ 25 (7 - m) = 0 then anyA τ m else 1
def sndT (τ : St) (t : Int) : Int := if el τ 26 t = 0 ∧ (anyA τ 8 = 0 ∨ ¬ el τ 25 t = 0) then 1 else 0
theorem anyA_01 (τ : St) : ∀ m, anyA τ m = 0 ∨ anyA τ m = 1
  | 0 => Or.inl rfl
  | m + 1 => by
    unfold anyA
    split
    · exact anyA_01 τ m
    · exact Or.inr rfl
theorem c_anyAlone_lp {N : Nat} {π : Sh} {σ τ : St} (h : RMs σ τ) : ∀ (m n : Nat) (x : Int), m < n → x + m = 8 → 0 ≤ x → Cs_anyAlone_2 N π n σ x = some (σ, anyA τ m)
  | _, 0, _, hm, _, _ => absurd hm (by omega)
  | 0, n + 1, x, _, hx, x0 => by
    rw [Cs_anyAlone_2, grd_t (by exact ⟨by omega, by omega⟩), if_neg (by omega)]
    rfl
  | m + 1, n + 1, x, hm, hx, x0 => by
    obtain ⟨-, a3, a4⟩ := h x x0 (by omega)
    have e : (7 : Int) - m = x := by omega
    rw [Cs_anyAlone_2, grd_t (by exact ⟨by omega, by omega⟩), if_pos (by omega), grd_t (by exact ⟨by omega, by omega⟩), a3, grd_t (by rcases a4 with q | q <;> rw [q] <;> decide), anyA, e]
    by_cases c : el τ 25 x = 0
    · rw [if_pos c, if_pos c]
      exact c_anyAlone_lp h m n (x + 1) (by omega) (by omega) (by omega)
    · rw [if_neg c, if_neg c]
theorem c_anyAlone {N : Nat} (hN : 64 ≤ N) {π : Sh} {σ τ : St} (h : RMs σ τ) : Cs_anyAlone N π σ = some (σ, anyA τ 8) := by
  rw [Cs_anyAlone]
  exact c_anyAlone_lp h 8 N 0 (by omega) (by omega) (by omega)
theorem r_snd_lp {N : Nat} {σ τ : St} (h : RMs σ τ) {t : Int} (t0 : 0 ≤ t) (t8 : t < 8) : ∀ (m n : Nat) (x s : Int), m < n → x + m = 8 → 0 ≤ x → (s = 0 ∨ s = 1) → r_isSounding_4 N n τ t s x = some (τ, if el τ 26 t = 0 ∧ ((s = 0 ∧ anyA τ m = 0) ∨ ¬ el τ 25 t = 0) then 1 else 0)
  | _, 0, _, _, hm, _, _, _ => absurd hm (by omega)
  | 0, n + 1, x, s, _, hx, x0, hs => by
    obtain ⟨⟨-, a2⟩, -, a4⟩ := h t t0 t8
    have i6 : i32 (el τ 26 t) := by rcases a2 with q | q <;> rw [q] <;> decide
    have i5 : i32 (el τ 25 t) := by rcases a4 with q | q <;> rw [q] <;> decide
    have is : i32 s := by rcases hs with q | q <;> rw [q] <;> decide
    rw [r_isSounding_4, grd_t (by exact ⟨by omega, by omega⟩), if_neg (by omega), grd_t (by exact ⟨t0, by omega⟩), grd_t i6]
    by_cases c : el τ 26 t = 0
    · rw [if_pos c, grd_t is]
      by_cases d : s = 0
      · rw [if_pos d, if_pos ⟨c, Or.inl ⟨d, rfl⟩⟩]
        rfl
      · rw [if_neg d, grd_t i5]
        by_cases g : el τ 25 t = 0
        · rw [if_pos g, if_neg (fun k => k.2.elim (fun z => d z.1) (fun z => z g))]
        · rw [if_neg g, if_pos ⟨c, Or.inr g⟩]
          rfl
    · rw [if_neg c, if_neg (fun k => c k.1)]
  | m + 1, n + 1, x, s, hm, hx, x0, hs => by
    obtain ⟨-, -, a4⟩ := h x x0 (by omega)
    have e : (7 : Int) - m = x := by omega
    have is : i32 s := by rcases hs with q | q <;> rw [q] <;> decide
    have i5 : i32 (el τ 25 x) := by rcases a4 with q | q <;> rw [q] <;> decide
    rw [r_isSounding_4, grd_t (by exact ⟨by omega, by omega⟩), if_pos (by omega), grd_t is, anyA, e]
    by_cases d : s = 0
    · rw [if_pos d, grd_t (by exact ⟨by omega, by omega⟩), grd_t i5]
      by_cases c : el τ 25 x = 0
      · rw [if_pos c, if_pos c, r_isSounding_28, r_snd_lp h t0 t8 m n (x + 1) 0 (by omega) (by omega) (by omega) (Or.inl rfl), d]
      · rw [if_neg c, if_neg c, r_isSounding_23, r_isSounding_28, r_snd_lp h t0 t8 m n (x + 1) 1 (by omega) (by omega) (by omega) (Or.inr rfl)]
        simp
    · rw [if_neg d, r_isSounding_23, r_isSounding_28, r_snd_lp h t0 t8 m n (x + 1) 1 (by omega) (by omega) (by omega) (Or.inr rfl)]
      simp [d]
theorem r_snd {N : Nat} (hN : 64 ≤ N) {σ τ : St} (h : RMs σ τ) {t : Int} (t0 : 0 ≤ t) (t8 : t < 8) : r_isSounding N τ t = some (τ, sndT τ t) := by
  rw [r_isSounding, r_snd_lp h t0 t8 8 N 0 0 (by omega) (by omega) (by omega) (Or.inl rfl), sndT]
  simp
