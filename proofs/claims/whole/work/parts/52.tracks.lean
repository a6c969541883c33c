/-! what waits for a cycle becomes so -/
def Stl (σ σ' : St) (x : Int) : Prop := (∀ f i, fl σ' f i = fl σ f i) ∧ (∀ a j, ¬ ((a = 51 ∨ a = 52 ∨ a = 53) ∧ x ≤ j ∧ j < 8) → el σ' a j = el σ a j) ∧ ∀ t, x ≤ t → t < 8 → (el σ 53 t = 0 → el σ' 51 t = el σ 51 t) ∧ (el σ 53 t ≠ 0 → el σ' 51 t = el σ 52 t) ∧ el σ' 53 t = 0
def Swp (τ τ' : St) (x : Int) : Prop := (∀ f i, fl τ' f i = fl τ f i) ∧ (∀ a j, ¬ ((a = 27 ∨ a = 28) ∧ x ≤ j ∧ j < 8) → el τ' a j = el τ a j) ∧ ∀ t, x ≤ t → t < 8 → (el τ 27 t = -2 → el τ' 28 t = el τ 28 t) ∧ (el τ 27 t ≠ -2 → el τ' 28 t = el τ 27 t) ∧ el τ' 27 t = -2
theorem settle_lp {N : Nat} {π : Sh} : ∀ (m n : Nat) (σ : St) (x : Int), m < n → x + m = 8 → 0 ≤ x → (∀ t, x ≤ t → t < 8 → isZ (el σ 53 t) ∧ (el σ 53 t ≠ 0 → el σ 52 t < 0 ∨ ob π (el σ 52 t) 5)) → ∃ σ', Cs_settle_14 N π n σ x = some σ' ∧ Stl σ σ' x
  | 0, 0, _, _, h, _, _, _ => absurd h (by omega)
  | 0, n + 1, σ, x, _, hx, h0, hw => by
    refine ⟨σ, ?_, fun _ _ => rfl, fun _ _ _ => rfl, fun t a b => by omega⟩
    rw [Cs_settle_14, grd_t (by exact ⟨by omega, by omega⟩), if_neg (by omega)]
  | m + 1, 0, _, _, h, _, _, _ => absurd h (by omega)
  | m + 1, n + 1, σ, x, hm, hx, h0, hw => by
    obtain ⟨hz, ho⟩ := hw x (by omega) (by omega)
    by_cases c : el σ 53 x = 0
    · obtain ⟨σ', e, s1, s2, s3⟩ := settle_lp m n σ (x + 1) (by omega) (by omega) (by omega) (fun t a b => hw t (by omega) b)
      refine ⟨σ', ?_, s1, fun a j hn => s2 a j (by omega), fun t a b => ?_⟩
      · rw [Cs_settle_14, grd_t (by exact ⟨by omega, by omega⟩), if_pos (by omega), grd_t (by exact ⟨by omega, by omega⟩), grd_t (by rw [c]; decide), if_pos c]
        exact e
      · by_cases d : t = x
        · subst d
          have e1 := s2 51 t (by omega)
          have e3 := s2 53 t (by omega)
          exact ⟨fun _ => e1, fun k => absurd c k, e3.trans c⟩
        · exact s3 t (by omega) b
    · obtain ⟨σ', e, s1, s2, s3⟩ := settle_lp m n (se (se (se σ 51 x (el σ 52 x)) 52 x (-1)) 53 x 0) (x + 1) (by omega) (by omega) (by omega) (fun t a b => by
        have e1 : el (se (se (se σ 51 x (el σ 52 x)) 52 x (-1)) 53 x 0) 53 t = el σ 53 t := by
          rw [el_sej _ _ _ (by omega), el_sen _ _ _ _ (by omega), el_sen _ _ _ _ (by omega)]
        have e2 : el (se (se (se σ 51 x (el σ 52 x)) 52 x (-1)) 53 x 0) 52 t = el σ 52 t := by
          rw [el_sen _ _ _ _ (by omega), el_sej _ _ _ (by omega), el_sen _ _ _ _ (by omega)]
        rw [e1, e2]
        exact hw t (by omega) b)
      refine ⟨σ', ?_, fun f i => s1 f i, fun a j hn => ?_, fun t a b => ?_⟩
      · rw [Cs_settle_14, grd_t (by exact ⟨by omega, by omega⟩), if_pos (by omega), grd_t (by exact ⟨by omega, by omega⟩), grd_t (by rcases hz with z | z <;> rw [z] <;> decide), if_neg c, grd_t (ho c)]
        exact e
      · rw [s2 a j (by omega), el_se, el_se, el_se, if_neg (by omega), if_neg (by omega), if_neg (by omega)]
      · by_cases d : t = x
        · subst d
          have e1 := s2 51 t (by omega)
          have e3 := s2 53 t (by omega)
          refine ⟨fun k => absurd k c, fun _ => ?_, ?_⟩
          · rw [e1, el_sen _ _ _ _ (by omega), el_sen _ _ _ _ (by omega), el_ses]
          · rw [e3, el_ses]
        · obtain ⟨q1, q2, q3⟩ := s3 t (by omega) b
          have e1 : el (se (se (se σ 51 x (el σ 52 x)) 52 x (-1)) 53 x 0) 53 t = el σ 53 t := by
            rw [el_sej _ _ _ (by omega), el_sen _ _ _ _ (by omega), el_sen _ _ _ _ (by omega)]
          have e2 : el (se (se (se σ 51 x (el σ 52 x)) 52 x (-1)) 53 x 0) 52 t = el σ 52 t := by
            rw [el_sen _ _ _ _ (by omega), el_sej _ _ _ (by omega), el_sen _ _ _ _ (by omega)]
          have e4 : el (se (se (se σ 51 x (el σ 52 x)) 52 x (-1)) 53 x 0) 51 t = el σ 51 t := by
            rw [el_sen _ _ _ _ (by omega), el_sen _ _ _ _ (by omega), el_sej _ _ _ (by omega)]
          rw [e1, e4] at q1
          rw [e1, e2] at q2
          exact ⟨q1, q2, q3⟩
theorem swaps_lp {N : Nat} : ∀ (m n : Nat) (τ : St) (x : Int), m < n → x + m = 8 → 0 ≤ x → (∀ t, x ≤ t → t < 8 → i32 (el τ 27 t)) → ∃ τ', r_swaps_2 N n τ x = some τ' ∧ Swp τ τ' x
  | 0, 0, _, _, h, _, _, _ => absurd h (by omega)
  | 0, n + 1, τ, x, _, hx, h0, hw => by
    refine ⟨τ, ?_, fun _ _ => rfl, fun _ _ _ => rfl, fun t a b => by omega⟩
    rw [r_swaps_2, grd_t (by exact ⟨by omega, by omega⟩), if_neg (by omega)]
  | m + 1, 0, _, _, h, _, _, _ => absurd h (by omega)
  | m + 1, n + 1, τ, x, hm, hx, h0, hw => by
    have hz := hw x (by omega) (by omega)
    by_cases c : el τ 27 x = -2
    · obtain ⟨τ', e, s1, s2, s3⟩ := swaps_lp m n τ (x + 1) (by omega) (by omega) (by omega) (fun t a b => hw t (by omega) b)
      refine ⟨τ', ?_, s1, fun a j hn => s2 a j (by omega), fun t a b => ?_⟩
      · rw [r_swaps_2, grd_t (by exact ⟨by omega, by omega⟩), if_pos (by omega), grd_t (by exact ⟨by omega, by omega⟩), grd_t hz, if_pos c]
        exact e
      · by_cases d : t = x
        · subst d
          have e1 := s2 28 t (by omega)
          have e3 := s2 27 t (by omega)
          exact ⟨fun _ => e1, fun k => absurd c k, e3.trans c⟩
        · exact s3 t (by omega) b
    · obtain ⟨τ', e, s1, s2, s3⟩ := swaps_lp m n (se (se τ 28 x (el τ 27 x)) 27 x (-2)) (x + 1) (by omega) (by omega) (by omega) (fun t a b => by
        have e1 : el (se (se τ 28 x (el τ 27 x)) 27 x (-2)) 27 t = el τ 27 t := by
          rw [el_sej _ _ _ (by omega), el_sen _ _ _ _ (by omega)]
        rw [e1]
        exact hw t (by omega) b)
      refine ⟨τ', ?_, fun f i => s1 f i, fun a j hn => ?_, fun t a b => ?_⟩
      · rw [r_swaps_2, grd_t (by exact ⟨by omega, by omega⟩), if_pos (by omega), grd_t (by exact ⟨by omega, by omega⟩), grd_t hz, if_neg c]
        exact e
      · rw [s2 a j (by omega), el_se, el_se, if_neg (by omega), if_neg (by omega)]
      · by_cases d : t = x
        · subst d
          have e1 := s2 28 t (by omega)
          have e3 := s2 27 t (by omega)
          refine ⟨fun k => absurd k c, fun _ => ?_, ?_⟩
          · rw [e1, el_sen _ _ _ _ (by omega), el_ses]
          · rw [e3, el_ses]
        · obtain ⟨q1, q2, q3⟩ := s3 t (by omega) b
          have e1 : el (se (se τ 28 x (el τ 27 x)) 27 x (-2)) 27 t = el τ 27 t := by
            rw [el_sej _ _ _ (by omega), el_sen _ _ _ _ (by omega)]
          have e4 : el (se (se τ 28 x (el τ 27 x)) 27 x (-2)) 28 t = el τ 28 t := by
            rw [el_sen _ _ _ _ (by omega), el_sej _ _ _ (by omega)]
          rw [e1, e4] at q1
          rw [e1] at q2
          exact ⟨q1, q2, q3⟩
theorem Stl.same {σ σ' : St} (h : Stl σ σ' 0) : SameC σ σ' := ⟨fun f i _ => h.1 f i, fun a j ha => h.2.1 a j (by omega)⟩
theorem Swp.same {τ τ' : St} (h : Swp τ τ' 0) : SameR τ τ' := ⟨fun f _ => h.1 f 0, fun a j ha => h.2.1 a j (by unfold inA at ha; omega)⟩
/-- the tracks, whatever the time -/
def RTw (PR : PRt) (π : Sh) (σ τ : St) : Prop := ∀ t, 0 ≤ t → t < 8 → PR π σ τ (el σ 51 t) (el τ 28 t) ∧ ((el σ 53 t = 0 ∧ el τ 27 t = -2) ∨ (el σ 53 t = 1 ∧ PR π σ τ (el σ 52 t) (el τ 27 t)))
theorem RTk.w {PR : PRt} {π : Sh} {σ τ : St} (h : RTk PR π σ τ) : RTw PR π σ τ := fun t a b => ⟨(h t a b).1, (h t a b).2.elim Or.inl (fun k => Or.inr ⟨k.1, k.2.1⟩)⟩
theorem pr_i32 {PR : PRt} {DR : DRt} (hI : Inn PR DR) {π : Sh} {σ τ : St} {r p : Int} (h : PR π σ τ r p) : (r < 0 ∨ ob π r 5) ∧ i32 p ∧ p ≠ -2 := by
  rcases hI.2.2.2.2.1 π σ τ r p h with ⟨a, b⟩ | ⟨a, b, c, -⟩
  · exact ⟨Or.inl (by omega), ⟨by omega, by omega⟩, by omega⟩
  · exact ⟨Or.inr a, ⟨by omega, by omega⟩, by omega⟩
/-- both settle -/
theorem both_settle {PR : PRt} {DR : DRt} (hI : Inn PR DR) {N : Nat} (hN : 64 ≤ N) {π : Sh} {σ τ : St} (h : RTw PR π σ τ) : ∃ σ' τ', Cs_settle_14 N π N σ 0 = some σ' ∧ r_swaps N τ = some τ' ∧ Stl σ σ' 0 ∧ Swp τ τ' 0 ∧ RTk PR π σ' τ' := by
  obtain ⟨σ', e1, s⟩ := settle_lp (N := N) (π := π) 8 N σ 0 (by omega) (by omega) (by omega) (fun t a b => ⟨by
    rcases (h t a b).2 with k | k
    · exact Or.inl k.1
    · exact Or.inr k.1, fun c => by
    rcases (h t a b).2 with k | k
    · exact absurd k.1 c
    · exact (pr_i32 hI k.2).1⟩)
  obtain ⟨τ', e2, w⟩ := swaps_lp (N := N) 8 N τ 0 (by omega) (by omega) (by omega) (fun t a b => by
    rcases (h t a b).2 with k | k
    · rw [k.2]
      decide
    · exact (pr_i32 hI k.2).2.1)
  refine ⟨σ', τ', e1, e2, s, w, fun t a b => ?_⟩
  obtain ⟨s1, s2, s3⟩ := s.2.2 t a b
  obtain ⟨w1, w2, w3⟩ := w.2.2 t a b
  obtain ⟨k1, k2⟩ := h t a b
  refine ⟨?_, Or.inl ⟨s3, w3⟩⟩
  rcases k2 with ⟨k2, k3⟩ | ⟨k2, k3⟩
  · rw [s1 k2, w1 k3]
    exact hI.1 _ _ _ _ _ _ _ s.same w.same k1
  · rw [s2 (by omega), w2 (pr_i32 hI k3).2.2]
    exact hI.1 _ _ _ _ _ _ _ s.same w.same k3
/-- a state's part that settling leaves alone -/
theorem RTp.stl {σ τ σ' τ' : St} (h : RTp σ τ) (hf : fl σ' 181 1 = fl σ 181 1) (hg : fl τ' 1 0 = fl τ 1 0) (he : ∀ j, el σ' 2 j = el σ 2 j) (hr : ∀ j, el τ' 97 j = el τ 97 j) : RTp σ' τ' := by
  obtain ⟨h1, h2, h3, h4⟩ := h
  rw [RTp, hf, hg]
  exact ⟨h1, h2, h3, fun j a b => by rw [he, hr]; exact h4 j a b⟩
theorem RMs.stl {σ τ σ' τ' : St} (h : RMs σ τ) (h1 : ∀ j, el σ' 54 j = el σ 54 j) (h2 : ∀ j, el σ' 55 j = el σ 55 j) (h3 : ∀ j, el τ' 26 j = el τ 26 j) (h4 : ∀ j, el τ' 25 j = el τ 25 j) : RMs σ' τ' := fun t a b => by
  rw [h1, h2, h3, h4]
  exact h t a b
theorem RKa.stl {RW : Int → Int → Int → Prop} {σ τ σ' τ' : St} (h : RKa RW σ τ) (h0 : fl σ' 68 24 = fl σ 68 24) (h1 : fl τ' 121 0 = fl τ 121 0) (h2 : fl τ' 128 0 = fl τ 128 0) (h3 : ∀ a j, 25 ≤ a → a ≤ 32 → el σ' a j = el σ a j) (h4 : ∀ a j, 19 ≤ a → a ≤ 24 → el τ' a j = el τ a j) : RKa RW σ' τ' := by
  obtain ⟨k1, k2, k3, k4, k5, k6⟩ := h
  rw [RKa, h0, h1, h2]
  refine ⟨k1, k2, k3, k4, k5, fun k a b => ?_⟩
  rw [h3 27 k (by omega) (by omega), h3 28 k (by omega) (by omega), h3 29 k (by omega) (by omega), h3 30 k (by omega) (by omega), h3 31 k (by omega) (by omega), h3 32 k (by omega) (by omega), h4 19 k (by omega) (by omega), h4 20 k (by omega) (by omega), h4 21 k (by omega) (by omega), h4 22 k (by omega) (by omega), h4 23 k (by omega) (by omega), h4 24 k (by omega) (by omega)]
  exact k6 k a b
theorem RKh.stl {RW : Int → Int → Int → Prop} {σ τ σ' τ' : St} (h : RKh RW σ τ) (h0 : fl σ' 68 33 = fl σ 68 33) (h1 : fl τ' 129 0 = fl τ 129 0) (h3 : ∀ a j, 34 ≤ a → a ≤ 41 → el σ' a j = el σ a j) (h4 : ∀ a j, 10 ≤ a → a ≤ 18 → el τ' a j = el τ a j) : RKh RW σ' τ' := by
  obtain ⟨k1, k2, k3, k6⟩ := h
  rw [RKh, h0, h1]
  refine ⟨k1, k2, k3, fun k a b => ?_⟩
  rw [h3 34 k (by omega) (by omega), h3 35 k (by omega) (by omega), h3 36 k (by omega) (by omega), h3 37 k (by omega) (by omega), h3 38 k (by omega) (by omega), h3 39 k (by omega) (by omega), h3 40 k (by omega) (by omega), h3 41 k (by omega) (by omega), h4 10 k (by omega) (by omega), h4 11 k (by omega) (by omega), h4 12 k (by omega) (by omega), h4 13 k (by omega) (by omega), h4 14 k (by omega) (by omega), h4 15 k (by omega) (by omega), h4 16 k (by omega) (by omega), h4 17 k (by omega) (by omega), h4 18 k (by omega) (by omega)]
  exact k6 k a b
