/-! what the reference's tasks are -/
section DO
variable {N : Nat}
theorem bsm {α : Type} (x : Option α) : Option.bind x (fun r => some r) = x := by cases x <;> rfl
theorem does1 (τ : St) (n : Int) : r_does N τ 1 n = r_make N τ n := by rw [r_does, grd_t (by decide), if_pos rfl, bsm]
theorem does2 (τ : St) (n : Int) : r_does N τ 2 n = r_terms N τ n := by rw [r_does, grd_t (by decide), if_neg (by decide), if_pos rfl, bsm]
theorem does3 (τ : St) (n : Int) (h : inb n 32768) : r_does N τ 3 n = r_two N τ 25 (el τ 92 n) 0 0 0 (el τ 93 n) := by
  rw [r_does, grd_t (by decide)]
  iterate 2 rw [if_neg (by decide)]
  rw [if_pos rfl, grd_t h, bsm]
theorem does4 (τ : St) (n : Int) (h : inb n 32768) (h94 : i32 (el τ 94 n)) (hT : 0 ≤ fl τ 65 0 ∧ fl τ 65 0 < 19999) (hn : n ≠ -1) : r_does N τ 4 n = some (pTs τ [(1, if el τ 94 n = 24 then el τ 87 n else n), (4, el τ 85 n)]) := by
  have e1 : ∀ a j : Int, a ≠ 55 → a ≠ 56 → el (pT τ (4, el τ 85 n)) a j = el τ a j := fun a j h1 h2 => pTs_el (τ := τ) [(4, el τ 85 n)] a j (Or.inl ⟨h1, h2⟩)
  have e2 : fl (pT τ (4, el τ 85 n)) 65 0 = fl τ 65 0 + 1 := pTs_65 (τ := τ) [(4, el τ 85 n)]
  rw [r_does, grd_t (by decide)]
  iterate 3 rw [if_neg (by decide)]
  rw [if_pos rfl, grd_t (by exact ⟨by have := h.1; omega, by have := h.2; omega⟩), if_neg hn, grd_t h, r_task' (by omega), Option.bind_some, e1 94 _ (by decide) (by decide), e1 87 _ (by decide) (by decide), grd_t h94]
  by_cases c : el τ 94 n = 24
  · rw [if_pos c, if_pos c, r_does_186, r_task' (by omega), Option.bind_some]; rfl
  · rw [if_neg c, if_neg c, r_does_186, r_task' (by omega), Option.bind_some]; rfl
theorem does4n (τ : St) : r_does N τ 4 (-1) = some τ := by
  rw [r_does, grd_t (by decide)]
  iterate 3 rw [if_neg (by decide)]
  rw [if_pos rfl, grd_t (by decide), if_pos rfl]
theorem does5 (τ : St) (n : Int) : r_does N τ 5 n = r_row N τ n := by
  rw [r_does, grd_t (by decide)]
  iterate 4 rw [if_neg (by decide)]
  rw [if_pos rfl, bsm]
theorem does6 (τ : St) (n : Int) : r_does N τ 6 n = r_changeOf N τ n := by
  rw [r_does, grd_t (by decide)]
  iterate 5 rw [if_neg (by decide)]
  rw [if_pos rfl, bsm]
theorem does7 (τ : St) (n : Int) : r_does N τ 7 n = r_arguments N τ n := by
  rw [r_does, grd_t (by decide)]
  iterate 6 rw [if_neg (by decide)]
  rw [if_pos rfl, bsm]
theorem does8 (τ : St) (n : Int) (h : inb n 32768) (h68 : 0 ≤ fl τ 68 0 - 1 ∧ fl τ 68 0 - 1 < 20000) : r_does N τ 8 n = some (se (sf τ 68 0 (fl τ 68 0 - 1)) 84 n (el τ 54 (fl τ 68 0 - 1))) := by
  rw [r_does, grd_t (by decide)]
  iterate 7 rw [if_neg (by decide)]
  rw [if_pos rfl, r_pop, grd_t (by exact ⟨h68.1, h68.2⟩), Option.bind_some, grd_t h]
theorem isFun' (τ : St) (n : Int) (h : inb n 32768) (h94 : 0 ≤ el τ 94 n ∧ el τ 94 n < 100) : r_isFun N τ n = some (τ, if 9 ≤ el τ 94 n ∧ el τ 94 n ≤ 13 then 1 else 0) := by
  rw [r_isFun, grd_t h, grd_t (by exact ⟨by omega, by omega⟩)]
  by_cases c : el τ 94 n < 9
  · rw [if_pos c, if_neg (by omega)]
  · rw [if_neg c]
    by_cases c2 : 13 < el τ 94 n
    · rw [if_pos c2, if_neg (by omega)]
    · rw [if_neg c2, if_pos (by omega)]
theorem does9 (τ : St) (n : Int) (h : inb n 32768) (h94 : 0 ≤ el τ 94 n ∧ el τ 94 n < 100) (hT : 0 ≤ fl τ 65 0 ∧ fl τ 65 0 ≤ 19998 ∧ (¬ (9 ≤ el τ 94 n ∧ el τ 94 n ≤ 13) → fl τ 65 0 ≤ 19997)) (hn : n ≠ -1) : r_does N τ 9 n = some (pTs τ (if 9 ≤ el τ 94 n ∧ el τ 94 n ≤ 13 then [(7, n), (9, el τ 85 n)] else [(1, n), (8, n), (9, el τ 85 n)])) := by
  have e1 : ∀ a j : Int, a ≠ 55 → a ≠ 56 → el (pT τ (9, el τ 85 n)) a j = el τ a j := fun a j h1 h2 => pTs_el (τ := τ) [(9, el τ 85 n)] a j (Or.inl ⟨h1, h2⟩)
  have e2 : fl (pT τ (9, el τ 85 n)) 65 0 = fl τ 65 0 + 1 := pTs_65 (τ := τ) [(9, el τ 85 n)]
  have e3 : fl (pT (pT τ (9, el τ 85 n)) (8, n)) 65 0 = fl τ 65 0 + 2 := pTs_65 (τ := τ) [(8, n), (9, el τ 85 n)]
  rw [r_does, grd_t (by decide)]
  iterate 8 rw [if_neg (by decide)]
  rw [if_pos rfl, grd_t (by exact ⟨by have := h.1; omega, by have := h.2; omega⟩), if_neg hn, grd_t h, r_task' (by omega), Option.bind_some, isFun' _ _ h (by rw [e1 94 _ (by decide) (by decide)]; exact h94), Option.bind_some, e1 94 _ (by decide) (by decide)]
  by_cases c : 9 ≤ el τ 94 n ∧ el τ 94 n ≤ 13
  · rw [if_pos c, if_pos c]; simp only; rw [grd_t (by decide), if_neg (by decide), r_task' (by omega), Option.bind_some]; rfl
  · have hc := hT.2.2 c
    rw [if_neg c, if_neg c]; simp only; rw [grd_t (by decide), if_pos trivial, if_pos trivial, r_task' (by omega), Option.bind_some, r_does_279, r_task' (by omega), Option.bind_some]; rfl
theorem does9n (τ : St) : r_does N τ 9 (-1) = some τ := by
  rw [r_does, grd_t (by decide)]
  iterate 8 rw [if_neg (by decide)]
  rw [if_pos rfl, grd_t (by decide), if_pos rfl]
theorem does10 (τ : St) (n : Int) (h : inb n 32768) (h94 : 0 ≤ el τ 94 n ∧ el τ 94 n < 100) (hT : 0 ≤ fl τ 65 0 ∧ fl τ 65 0 ≤ 19998) (hn : n ≠ -1) : r_does N τ 10 n = some (pTs τ (if 9 ≤ el τ 94 n ∧ el τ 94 n ≤ 13 then [(7, n), (10, el τ 85 n)] else [(1, n), (10, el τ 85 n)])) := by
  have e1 : ∀ a j : Int, a ≠ 55 → a ≠ 56 → el (pT τ (10, el τ 85 n)) a j = el τ a j := fun a j h1 h2 => pTs_el (τ := τ) [(10, el τ 85 n)] a j (Or.inl ⟨h1, h2⟩)
  have e2 : fl (pT τ (10, el τ 85 n)) 65 0 = fl τ 65 0 + 1 := pTs_65 (τ := τ) [(10, el τ 85 n)]
  rw [r_does, grd_t (by decide)]
  iterate 9 rw [if_neg (by decide)]
  rw [if_pos rfl, grd_t (by exact ⟨by have := h.1; omega, by have := h.2; omega⟩), if_neg hn, grd_t h, r_task' (by omega), Option.bind_some, isFun' _ _ h (by rw [e1 94 _ (by decide) (by decide)]; exact h94), Option.bind_some, e1 94 _ (by decide) (by decide)]
  by_cases c : 9 ≤ el τ 94 n ∧ el τ 94 n ≤ 13
  · rw [if_pos c, if_pos c]; simp only; rw [grd_t (by decide), if_neg (by decide), r_task' (by omega), Option.bind_some]; rfl
  · rw [if_neg c, if_neg c]; simp only; rw [grd_t (by decide), if_pos trivial, if_neg (by decide), r_does_279, r_task' (by omega), Option.bind_some]; rfl
theorem does10n (τ : St) : r_does N τ 10 (-1) = some τ := by
  rw [r_does, grd_t (by decide)]
  iterate 9 rw [if_neg (by decide)]
  rw [if_pos rfl, grd_t (by decide), if_pos rfl]
theorem does11 (τ : St) (n : Int) : r_does N τ 11 n = r_apply N τ n := by
  rw [r_does, grd_t (by decide)]
  iterate 10 rw [if_neg (by decide)]
  rw [if_pos rfl, bsm]
theorem does12 (τ : St) (n : Int) : r_does N τ 12 n = r_function N τ n := by
  rw [r_does, grd_t (by decide)]
  iterate 11 rw [if_neg (by decide)]
  rw [if_pos rfl, bsm]
theorem does13 (τ : St) (n : Int) (h : 0 ≤ fl τ 68 0 - 1 ∧ fl τ 68 0 < 20000) : r_does N τ 13 n = some (sf (se τ 54 (fl τ 68 0) (el τ 54 (fl τ 68 0 - 1))) 68 0 (fl τ 68 0 + 1)) := by
  rw [r_does, grd_t (by decide)]
  iterate 12 rw [if_neg (by decide)]
  rw [if_pos rfl, grd_t (by exact ⟨h.1, by omega⟩), r_push, grd_t (by exact ⟨by omega, h.2⟩), bsm]
theorem does15 (τ : St) (n : Int) : r_does N τ 15 n = r_ofFunction N τ n := by
  rw [r_does, grd_t (by decide)]
  iterate 14 rw [if_neg (by decide)]
  rw [if_pos rfl, bsm]
theorem does16 (τ : St) (n : Int) (h : inb n 32768) : r_does N τ 16 n = r_one N τ 11 (el τ 91 n) (el τ 90 n) 0 0 (el τ 93 n) := by
  rw [r_does, grd_t (by decide)]
  iterate 15 rw [if_neg (by decide)]
  rw [if_pos rfl, grd_t h, bsm]
theorem does17 (τ : St) (n : Int) (h : inb n 32768) : r_does N τ 17 n = r_two N τ 5 0 0 0 0 (el τ 93 n) := by
  rw [r_does, grd_t (by decide)]
  iterate 16 rw [if_neg (by decide)]
  rw [if_pos rfl, grd_t h, bsm]
theorem does18 (τ : St) (n : Int) (h : inb n 32768) : r_does N τ 18 n = r_one N τ 21 (el τ 91 n) 0 0 0 (el τ 93 n) := by
  rw [r_does, grd_t (by decide)]
  iterate 17 rw [if_neg (by decide)]
  rw [if_pos rfl, grd_t h, bsm]
theorem does19 (τ : St) (n : Int) (h : inb n 32768) : r_does N τ 19 n = r_one N τ 22 (el τ 91 n) 0 0 0 (el τ 93 n) := by
  rw [r_does, grd_t (by decide)]
  iterate 18 rw [if_neg (by decide)]
  rw [if_pos rfl, grd_t h, bsm]
theorem does20 (τ : St) (n : Int) (h : inb n 32768) : r_does N τ 20 n = r_one N τ 9 1 (el τ 91 n) 0 0 (el τ 93 n) := by
  rw [r_does, grd_t (by decide)]
  iterate 19 rw [if_neg (by decide)]
  rw [if_pos rfl, grd_t h, bsm]
theorem does21 (τ : St) (n : Int) (h : inb n 32768) : r_does N τ 21 n = r_one N τ 9 (el τ 91 n) 1 0 0 (el τ 93 n) := by
  rw [r_does, grd_t (by decide)]
  iterate 20 rw [if_neg (by decide)]
  rw [if_pos rfl, grd_t h, bsm]
theorem does22 (τ : St) (n : Int) : r_does N τ 22 n = r_use N τ n := by
  rw [r_does, grd_t (by decide)]
  iterate 21 rw [if_neg (by decide)]
  rw [if_pos rfl, bsm]
theorem does14 (τ : St) (n : Int) (h : 2 ≤ fl τ 68 0 ∧ fl τ 68 0 ≤ 20000) : r_does N τ 14 n = some (sf (se (se τ 54 (fl τ 68 0 - 2) (el τ 54 (fl τ 68 0 - 1))) 54 (fl τ 68 0 - 1) (el τ 54 (fl τ 68 0 - 2))) 68 0 (fl τ 68 0)) := by
  rw [r_does, grd_t (by decide)]
  iterate 13 rw [if_neg (by decide)]
  rw [if_pos rfl, r_pop, grd_t (by exact ⟨by omega, by omega⟩), Option.bind_some, r_pop]
  simp only [fl_sfs, el_sf]
  rw [show fl τ 68 0 - 1 - 1 = fl τ 68 0 - 2 by omega, grd_t (by exact ⟨by omega, by omega⟩), Option.bind_some, r_push]
  simp only [fl_sfs, el_sf]
  rw [grd_t (by exact ⟨by omega, by omega⟩), Option.bind_some, r_push]
  simp only [fl_sfs, el_sf]
  rw [show fl τ 68 0 - 2 + 1 = fl τ 68 0 - 1 by omega, grd_t (by exact ⟨by omega, by omega⟩), Option.bind_some, show fl τ 68 0 - 1 + 1 = fl τ 68 0 by omega]
  congr 1
  have sfsf : ∀ (τ : St) (f : Nat) (i a b : Int), sf (sf τ f i a) f i b = sf τ f i b := fun τ f i a b => by
    unfold sf
    congr 1
    funext g k
    by_cases c : g = f ∧ k = i
    · simp [c]
    · simp [c, fl]
  have sese : ∀ (τ : St) (f : Nat) (i a : Int) (x y z : Int), se (sf τ f i a) x y z = sf (se τ x y z) f i a := fun _ _ _ _ _ _ _ => rfl
  simp only [sese, sfsf]
/-- one of the top, two of the top, a leaf, as makings of kids -/
theorem r_c0 (τ : St) (place : Int) (hN : 1 ≤ N) : r_counts N τ place 0 = some τ := by
  obtain ⟨m, rfl⟩ : ∃ m, N = m + 1 := ⟨N - 1, by omega⟩
  rw [r_counts, r_counts_2, grd_t (by decide), grd_t (by decide), if_neg (by decide)]
theorem one_rCM (τ : St) (K a b c d place Q : Int) (hN : 1 ≤ N) (h11 : fl τ 11 0 = 0) (h68 : fl τ 68 0 = Q + 1) (hQ : 0 ≤ Q ∧ Q < 20000) : r_one N τ K a b c d place = rCM N τ 0 Q K a b c d place [(el τ 54 Q, 1, 1)] := by
  rw [rCM, r_c0 _ _ hN, Option.bind_some, if_pos h11, rMk, r_one, r_pop, h68, show Q + 1 - 1 = Q by omega, grd_t (by exact ⟨hQ.1, hQ.2⟩), Option.bind_some]
  simp only
  congr 1
  funext r3
  rw [aKs, Option.bind_assoc]
  congr 1
  funext r5
  rw [aKs, bsm]
  rfl
theorem two_rCM (τ : St) (K a b c d place Q : Int) (hN : 1 ≤ N) (h11 : fl τ 11 0 = 0) (h68 : fl τ 68 0 = Q + 2) (hQ : 0 ≤ Q ∧ Q + 1 < 20000) : r_two N τ K a b c d place = rCM N τ 0 Q K a b c d place [(el τ 54 Q, 1, 1), (el τ 54 (Q + 1), 1, 1)] := by
  have sfsf : sf (sf τ 68 0 (Q + 1)) 68 0 Q = sf τ 68 0 Q := by
    unfold sf
    congr 1
    funext g k
    by_cases c : g = 68 ∧ k = 0
    · simp [c]
    · simp [c, fl]
  rw [rCM, r_c0 _ _ hN, Option.bind_some, if_pos h11, rMk, r_two, r_pop, h68, show Q + 2 - 1 = Q + 1 by omega, grd_t (by exact ⟨by omega, hQ.2⟩), Option.bind_some, r_pop]
  simp only [fl_sfs, el_sf]
  rw [show Q + 1 - 1 = Q by omega, grd_t (by exact ⟨hQ.1, by omega⟩), Option.bind_some, sfsf]
  simp only
  congr 1
  funext r5
  rw [aKs, Option.bind_assoc]
  congr 1
  funext r7
  rw [aKs, Option.bind_assoc]
  congr 1
  funext r9
  rw [aKs, bsm]
  rfl
theorem leaf_rCM (τ : St) (K a b place : Int) (hN : 1 ≤ N) (h11 : fl τ 11 0 = 0) : r_leaf N τ K a b place = rCM N τ 0 (fl τ 68 0) K a b 0 0 place [] := by
  have e : sf τ 68 0 (fl τ 68 0) = τ := by
    unfold sf
    have : (fun g k => if g = 68 ∧ k = 0 then fl τ 68 0 else fl τ g k) = fun g k => fl τ g k := by
      funext g k
      by_cases c : g = 68 ∧ k = 0
      · rw [if_pos c, c.1, c.2]
      · rw [if_neg c]
    cases τ
    simp_all [fl]
  rw [rCM, r_c0 _ _ hN, Option.bind_some, if_pos h11, rMk, r_leaf, e]
  congr 1
  funext r3
  rw [aKs, bsm]
  rfl
end DO
