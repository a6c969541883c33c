/-! the scanner: blanks -/
theorem sf_sf (σ : St) (f : Nat) (i v w : Int) : sf (sf σ f i v) f i w = sf σ f i w := by
  refine Prod.ext ?_ rfl
  funext g j
  show (if g = f ∧ j = i then w else if g = f ∧ j = i then v else σ.1 g j) = if g = f ∧ j = i then w else σ.1 g j
  split <;> rfl
theorem sf_id {σ : St} {f : Nat} {i v : Int} (h : fl σ f i = v) : sf σ f i v = σ := by
  refine Prod.ext ?_ rfl
  funext g j
  show (if g = f ∧ j = i then v else σ.1 g j) = σ.1 g j
  split
  · rename_i e
    rw [e.1, e.2]
    exact h.symm
  · rfl
theorem RTp.at {σ τ : St} (h : RTp σ τ) (i v : Int) : RTp (sf σ 186 i v) τ := h.stl rfl rfl (fun _ => rfl) (fun _ => rfl)
/-- both skip blanks to one place -/
theorem both_skip {N : Nat} {π : Sh} {τ : St} : ∀ (m n n' : Nat) (σ : St) (k : Int), RTp σ τ → fl σ 186 1 = k → 0 ≤ k → k + m = fl τ 1 0 → m < n → m < n' → ∃ j, k ≤ j ∧ j ≤ fl τ 1 0 ∧ (j < fl τ 1 0 → el τ 97 j ≠ 32) ∧ (∀ i, k ≤ i → i < j → el τ 97 i = 32) ∧ Sc_advance_8 N π n σ = Sc_advance_46 N π (sf σ 186 1 j) ∧ r_look_2 N n' τ k = r_look_27 N τ j
  | _, 0, _, _, _, _, _, _, _, h, _ => absurd h (by omega)
  | _, _ + 1, 0, _, _, _, _, _, _, _, h => absurd h (by omega)
  | 0, n + 1, n' + 1, σ, k, hT, hk, k0, hm, _, _ => by
    obtain ⟨t1, t2, t3, t4⟩ := id hT
    refine ⟨k, by omega, by omega, fun c => by omega, fun i a b => by omega, ?_, ?_⟩
    · rw [Sc_advance_8, hk, t1, grd_t (by exact ⟨by omega, by omega⟩), grd_t (by exact ⟨by omega, by omega⟩), if_neg (by omega), sf_id hk]
    · rw [r_look_2, grd_t (by exact ⟨by omega, by omega⟩), grd_t (by exact ⟨by omega, by omega⟩), if_neg (by omega)]
  | m + 1, n + 1, n' + 1, σ, k, hT, hk, k0, hm, hn, hn' => by
    obtain ⟨t1, t2, t3, t4⟩ := id hT
    obtain ⟨b1, b2, b3⟩ := t4 k k0 (by omega)
    by_cases c : el τ 97 k = 32
    · obtain ⟨j, j1, j2, j3, j4, j5, j6⟩ := both_skip (N := N) (π := π) (τ := τ) m n n' (sf σ 186 1 (k + 1)) (k + 1) (hT.at 1 (k + 1)) (fl_sfs _ _ _ _) (by omega) (by omega) (by omega) (by omega)
      refine ⟨j, by omega, j2, j3, fun i a b => ?_, ?_, ?_⟩
      · by_cases d : i = k
        · rw [d]
          exact c
        · exact j4 i (by omega) b
      · rw [Sc_advance_8, hk, t1, grd_t (by exact ⟨by omega, by omega⟩), grd_t (by exact ⟨by omega, by omega⟩), if_pos (by omega), grd_t (by exact ⟨by omega, by omega⟩), b1, grd_t (by exact ⟨by omega, by omega⟩), if_pos c, j5, sf_sf]
      · rw [r_look_2, grd_t (by exact ⟨by omega, by omega⟩), grd_t (by exact ⟨by omega, by omega⟩), if_pos (by omega), grd_t (by exact ⟨by omega, by omega⟩), grd_t (by exact ⟨by omega, by omega⟩), if_pos c, j6]
    · refine ⟨k, by omega, by omega, fun _ => c, fun i a b => by omega, ?_, ?_⟩
      · rw [Sc_advance_8, hk, t1, grd_t (by exact ⟨by omega, by omega⟩), grd_t (by exact ⟨by omega, by omega⟩), if_pos (by omega), grd_t (by exact ⟨by omega, by omega⟩), b1, grd_t (by exact ⟨by omega, by omega⟩), if_neg c, sf_id hk]
      · rw [r_look_2, grd_t (by exact ⟨by omega, by omega⟩), grd_t (by exact ⟨by omega, by omega⟩), if_pos (by omega), grd_t (by exact ⟨by omega, by omega⟩), grd_t (by exact ⟨by omega, by omega⟩), if_neg c]
