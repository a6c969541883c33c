/-! rows of the reference, kind by kind: leaves, turns, choices, squeezed -/
/-- what the rounds of a node are to come to -/
def GO (N : Nat) (τs : St) (k e : Int) (L : List Evt) (τ : St) (m : Nat) : Prop := ∃ κ τ', κ ≤ m ∧ Rnd N κ τ τ' ∧ RQ e k τs τ' ∧ fl τ' 96 0 = k ∧ fl τ' 84 0 = e + L.length ∧ At (RE τ') e L
theorem GO.wk {N : Nat} {τs : St} {k e : Int} {L : List Evt} {τ : St} {m m' : Nat} (h : GO N τs k e L τ m) (hm : m ≤ m') : GO N τs k e L τ m' := by
  obtain ⟨κ, τ', a, b⟩ := h
  exact ⟨κ, τ', by omega, b⟩
section RK
variable {N : Nat} {τ0 τs : St} {d : Nat} {k p c e : Int}
theorem r_weights_lp {τ : St} (hT : TN τ0 (d + 1) p) (tb : TB τ0 τ) (hk : ∀ i, 0 ≤ i → i < el τ0 64 p → 0 ≤ el τ0 57 (el τ0 65 p + i) ∧ el τ0 57 (el τ0 65 p + i) < 100000) : ∀ (m n : Nat) (i w : Int), m < n → 0 ≤ i → i + m = el τ0 64 p → r_weights_10 N n τ p w (el τ0 65 p + i) = some (τ, w + wS (kidF τ0 (el τ0 65 p + i) m))
  | 0, n + 1, i, w, _, i0, hi => by
    have bT := hT.2.2.1
    have pp := hT.pos
    rw [r_weights_10, grd_t (by exact ⟨by omega, by omega⟩), grd_t (by exact ⟨by omega, by omega⟩), tb.1 65 _ (by decide), tb.1 64 _ (by decide), grd_t (by exact ⟨by omega, by omega⟩), if_neg (by omega), kidF, wS, Int.add_zero]
  | m + 1, n + 1, i, w, hmn, i0, hi => by
    have bT := hT.2.2.1
    have pp := hT.pos
    obtain ⟨b1, b2⟩ := hk i i0 (by omega)
    rw [r_weights_10, grd_t (by exact ⟨by omega, by omega⟩), grd_t (by exact ⟨by omega, by omega⟩), tb.1 65 _ (by decide), tb.1 64 _ (by decide), grd_t (by exact ⟨by omega, by omega⟩), if_pos (by omega), grd_t (by exact ⟨by omega, by omega⟩), tb.1 57 _ (by decide), grd_t (by exact ⟨by omega, by omega⟩), tm_pos b1, td_pos b1, grd_t (by exact ⟨by omega, by omega⟩), grd_t (by exact ⟨by omega, by omega⟩), bnd, show el τ0 65 p + i + 1 = el τ0 65 p + (i + 1) by omega, r_weights_lp hT tb hk m n (i + 1) _ (by omega) (by omega) (by omega), kidF_drop, wS]
    simp only
    rw [show el τ0 65 p + (i + 1) = el τ0 65 p + i + 1 by omega]
    rw [show w + el τ0 57 (el τ0 65 p + i) % 32 * (el τ0 57 (el τ0 65 p + i) / 32) + wS (kidF τ0 (el τ0 65 p + i + 1) m) = w + (el τ0 57 (el τ0 65 p + i) % 32 * (el τ0 57 (el τ0 65 p + i) / 32) + wS (kidF τ0 (el τ0 65 p + i + 1) m)) by omega]
theorem r_weights' {τ : St} (hT : TN τ0 (d + 1) p) (tb : TB τ0 τ) (hN : 300000 ≤ N) (hk : ∀ i, 0 ≤ i → i < el τ0 64 p → 0 ≤ el τ0 57 (el τ0 65 p + i) ∧ el τ0 57 (el τ0 65 p + i) < 100000) : r_weights N τ p = some (τ, wS (kl τ0 p)) := by
  have bT := hT.2.2.1
  have pp := hT.pos
  have := r_weights_lp (N := N) hT tb hk (el τ0 64 p).toNat N 0 0 (by omega) (Int.le_refl _) (by omega)
  rw [Int.add_zero, Int.zero_add] at this
  rw [r_weights, grd_t (by exact ⟨by omega, by omega⟩), tb.1 65 _ (by decide), bnd]
  exact this
theorem r_kidAt_lp {τ : St} {v : Int} (hT : TN τ0 (d + 1) p) (tb : TB τ0 τ) (hv : 0 ≤ v ∧ v ≤ 1000000) (hk : ∀ i, 0 ≤ i → i < el τ0 64 p → 0 ≤ el τ0 57 (el τ0 65 p + i) ∧ el τ0 57 (el τ0 65 p + i) < 100000) : ∀ (m n : Nat) (i w : Int), m + 1 < n → 0 ≤ i → i + m = el τ0 64 p → 0 ≤ w → w ≤ v → v < w + wS (kidF τ0 (el τ0 65 p + i) m) → (∀ x ∈ kidF τ0 (el τ0 65 p + i) m, 1 ≤ x.2.1 ∧ 1 ≤ x.2.2) → ∃ j, i ≤ j ∧ j < el τ0 64 p ∧ r_kidAt_9 N n τ p v w i 0 = some (τ, j) ∧ katL (kidF τ0 (el τ0 65 p + i) m) (v - w) = kd τ0 p j
  | 0, n + 1, i, w, _, i0, hi, w0, w1, h1, _ => by
    exfalso
    rw [kidF, wS] at h1
    omega
  | m + 1, n + 1, i, w, hmn, i0, hi, w0, w1, h1, h3 => by
    have bT := hT.2.2.1
    have pp := hT.pos
    obtain ⟨b1, b2⟩ := hk i i0 (by omega)
    rw [kidF_drop] at h1 h3 ⊢
    rw [wS] at h1
    simp only at h1
    have x1 := h3 _ (List.mem_cons_self)
    simp only at x1
    have wo : 0 ≤ el τ0 57 (el τ0 65 p + i) % 32 * (el τ0 57 (el τ0 65 p + i) / 32) := Int.mul_nonneg (by omega) (by omega)
    have wl : el τ0 57 (el τ0 65 p + i) % 32 * (el τ0 57 (el τ0 65 p + i) / 32) ≤ 32 * 100000 := Int.mul_le_mul (by omega) (by omega) (by omega) (by omega)
    have st : r_kidAt_9 N (n + 1) τ p v w i 0 = if v < w + el τ0 57 (el τ0 65 p + i) % 32 * (el τ0 57 (el τ0 65 p + i) / 32) then r_kidAt_9 N n τ p v (w + el τ0 57 (el τ0 65 p + i) % 32 * (el τ0 57 (el τ0 65 p + i) / 32)) i 1 else r_kidAt_9 N n τ p v (w + el τ0 57 (el τ0 65 p + i) % 32 * (el τ0 57 (el τ0 65 p + i) / 32)) (i + 1) 0 := by
      rw [r_kidAt_9, grd_t (by decide), if_pos rfl, grd_t (by exact ⟨by omega, by omega⟩), tb.1 65 _ (by decide), grd_t (by exact ⟨by omega, by omega⟩), tb.1 57 _ (by decide), grd_t (by exact ⟨by omega, by omega⟩), tm_pos b1, td_pos b1, grd_t (by exact ⟨by omega, by omega⟩), grd_t (by exact ⟨by omega, by omega⟩), bnd, grd_t (by exact ⟨by omega, by omega⟩), grd_t (by exact ⟨by omega, by omega⟩)]
      rfl
    by_cases c1 : v < w + el τ0 57 (el τ0 65 p + i) % 32 * (el τ0 57 (el τ0 65 p + i) / 32)
    · refine ⟨i, Int.le_refl _, by omega, ?_, ?_⟩
      · rw [st, if_pos c1]
        cases n with
        | zero => omega
        | succ n => rw [r_kidAt_9, grd_t (by decide), if_neg (by decide)]
      · cases hl : kidF τ0 (el τ0 65 p + i + 1) m with
        | nil => rfl
        | cons y l =>
          rw [katL]
          · rw [if_pos (by show v - w < el τ0 57 (el τ0 65 p + i) % 32 * (el τ0 57 (el τ0 65 p + i) / 32); omega)]
          · intro h; cases h
    · have e1 : el τ0 65 p + i + 1 = el τ0 65 p + (i + 1) := by omega
      rw [e1] at h1 h3 ⊢
      obtain ⟨j, j0, j1, j2, j3⟩ := r_kidAt_lp hT tb hv hk m n (i + 1) (w + el τ0 57 (el τ0 65 p + i) % 32 * (el τ0 57 (el τ0 65 p + i) / 32)) (by omega) (by omega) (by omega) (by omega) (by omega) (by omega) (fun x hx => h3 x (by simp [hx]))
      refine ⟨j, by omega, j1, by rw [st, if_neg c1]; exact j2, ?_⟩
      cases hl : kidF τ0 (el τ0 65 p + (i + 1)) m with
      | nil =>
        rw [hl, wS] at h1
        exfalso
        omega
      | cons y l =>
        rw [katL]
        · rw [if_neg (by show ¬ v - w < el τ0 57 (el τ0 65 p + i) % 32 * (el τ0 57 (el τ0 65 p + i) / 32); omega), ← j3, hl]
          congr 1
          show v - w - el τ0 57 (el τ0 65 p + i) % 32 * (el τ0 57 (el τ0 65 p + i) / 32) = _
          omega
        · intro h; cases h
theorem r_kidAt' {τ : St} {v : Int} (hT : TN τ0 (d + 1) p) (tb : TB τ0 τ) (hN : 300000 ≤ N) (hv : 0 ≤ v ∧ v < wS (kl τ0 p)) (hw : wS (kl τ0 p) ≤ 1000000) (hk : ∀ i, 0 ≤ i → i < el τ0 64 p → 0 ≤ el τ0 57 (el τ0 65 p + i) ∧ el τ0 57 (el τ0 65 p + i) < 100000) (hp : ∀ x ∈ kl τ0 p, 1 ≤ x.2.1 ∧ 1 ≤ x.2.2) : ∃ j, 0 ≤ j ∧ j < el τ0 64 p ∧ r_kidAt N τ p v = some (τ, j) ∧ katL (kl τ0 p) v = kd τ0 p j := by
  have bT := hT.2.2.1
  obtain ⟨j, j0, j1, j2, j3⟩ := r_kidAt_lp (N := N) hT tb (v := v) ⟨hv.1, by omega⟩ hk (el τ0 64 p).toNat N 0 0 (by omega) (Int.le_refl _) (by omega) (Int.le_refl _) hv.1 (by rw [Int.add_zero, Int.zero_add]; exact hv.2) (by rw [Int.add_zero]; exact hp)
  rw [Int.add_zero, Int.sub_zero] at j3
  exact ⟨j, j0, j1, j2, j3⟩
/-- weights of the kids of a node whose kids are weighted -/
theorem kw_b (hp : ∀ x ∈ kl τ0 p, (1 ≤ x.2.1 ∧ x.2.1 ≤ 31) ∧ (1 ≤ x.2.2 ∧ x.2.2 ≤ 1000)) : ∀ i, 0 ≤ i → i < el τ0 64 p → 0 ≤ el τ0 57 (el τ0 65 p + i) ∧ el τ0 57 (el τ0 65 p + i) < 100000 := fun i i0 i1 => by
  have := hp _ (kl_get i0 i1)
  simp only at this
  omega
/-- a step of a node that has kids -/
theorem r_step_k {τ : St} {A : List Evt} (h : PR2 N τ0 d k p c e) (hA : NR τ0 τs k p c e A τ) : ∃ (hK : i32 (el τ0 70 p)), ∀ F : Option (St × Int), ((el τ0 70 p = 4 ∧ F = r_sequence N τ k p c) ∨ (el τ0 70 p = 5 ∧ F = r_together N τ k p c) ∨ (el τ0 70 p = 6 ∧ F = r_turn N τ k p c) ∨ (el τ0 70 p = 7 ∧ F = r_poly N τ k p c) ∨ (el τ0 70 p = 8 ∧ 0 < el τ0 69 p ∧ i32 (el τ0 69 p) ∧ F = r_spreads N τ k p c) ∨ ((el τ0 70 p = 9 ∨ el τ0 70 p = 10 ∨ el τ0 70 p = 11 ∨ el τ0 70 p = 17 ∨ el τ0 70 p = 18) ∧ F = r_rows N τ k p c) ∨ ((el τ0 70 p = 12 ∨ el τ0 70 p = 13 ∨ el τ0 70 p = 14 ∨ el τ0 70 p = 19 ∨ el τ0 70 p = 20 ∨ el τ0 70 p = 21 ∨ el τ0 70 p = 22) ∧ F = r_single N τ k p c) ∨ ((el τ0 70 p = 15 ∨ el τ0 70 p = 16) ∧ F = r_windows N τ k p c) ∨ ((el τ0 70 p = 23 ∨ el τ0 70 p = 24 ∨ el τ0 70 p = 25) ∧ F = r_sounds N τ k p c)) → r_step N τ k = Option.bind F (fun r => grd (i32 r.2) (if r.2 = 0 then r_step_292 N r.1 else some r.1)) := by
  obtain ⟨hHR, hT, hC, k0, k1, e0, e1, hN⟩ := h
  have pp := hT.pos
  have kb : 1 ≤ el τ0 70 p ∧ el τ0 70 p ≤ 25 := by
    have := hT.2.2.2.2
    unfold NK at this
    omega
  refine ⟨⟨by omega, by omega⟩, fun F hF => ?_⟩
  rw [r_step, grd_t (by exact ⟨by omega, by omega⟩), bnd, bnd, hA.2.2.1, hA.2.2.2.1, grd_t (by exact ⟨by omega, by omega⟩), hA.t 70 _ (by decide), grd_t (by exact ⟨by omega, by omega⟩)]
  rcases hF with ⟨hK, rfl⟩ | ⟨hK, rfl⟩ | ⟨hK, rfl⟩ | ⟨hK, rfl⟩ | ⟨hK, h8, h8', rfl⟩ | ⟨hK, rfl⟩ | ⟨hK, rfl⟩ | ⟨hK, rfl⟩ | ⟨hK, rfl⟩
  · rw [hK]; rfl
  · rw [hK]; rfl
  · rw [hK]; rfl
  · rw [hK]; rfl
  · rw [hK, hA.t 69 _ (by decide)]
    show grd (i32 (el τ0 69 p)) (if (0 : Int) < el τ0 69 p then _ else _) = _
    rw [grd_t h8', if_pos h8]
  · rcases hK with hK | hK | hK | hK | hK <;> rw [hK] <;> rfl
  · rcases hK with hK | hK | hK | hK | hK | hK | hK <;> rw [hK] <;> rfl
  · rcases hK with hK | hK <;> rw [hK] <;> rfl
  · rcases hK with hK | hK | hK <;> rw [hK] <;> rfl
/-- a step that calls a kid, its row, and what follows -/
theorem GO.call {τ τ1 τ2 : St} {A L : List Evt} {κ m : Nat} (h : PR2 N τ0 d k p c e) (hA : NR τ0 τs k p c e A τ) (hs : r_step N τ k = some τ1) (h1 : Rnd N κ τ1 τ2) (hκ : κ ≤ sbd d) (h2 : GO N τs k e L τ2 m) : GO N τs k e L τ (m + (sbd d + 1)) := by
  obtain ⟨κ2, τ', a1, a2, a3⟩ := h2
  exact ⟨1 + κ + κ2, τ', by omega, ((Rnd.step hA.2.1 h.2.2.2.1 (by have := h.2.2.2.2.1; have := h.2.2.2.1; omega) hs).tr h1).tr a2, a3⟩
/-- a step that ends the node -/
theorem GO.done {τ τ1 : St} {A L : List Evt} (h : PR2 N τ0 d k p c e) (hA : NR τ0 τs k p c e A τ) (hs : r_step N τ k = r_step_292 N τ1) (h1 : NR τ0 τs k p c e L τ1) : GO N τs k e L τ 1 := by
  obtain ⟨τ', p1, p2, p3, p4, p5⟩ := h1.pop (N := N)
  exact ⟨1, τ', Nat.le_refl _, Rnd.step hA.2.1 h.2.2.2.1 (by have := h.2.2.2.2.1; have := h.2.2.2.1; omega) (hs.trans p1), p2, p3, p4, p5⟩
theorem fin1 {τ1 : St} : (Option.bind (some (τ1, (1 : Int))) (fun r => grd (i32 r.2) (if r.2 = 0 then r_step_292 N r.1 else some r.1))) = some τ1 := by
  rw [Option.bind_some, grd_t (show i32 1 by decide), if_neg (show ¬ (1 : Int) = 0 by decide)]
theorem fin0 {τ1 : St} : (Option.bind (some (τ1, (0 : Int))) (fun r => grd (i32 r.2) (if r.2 = 0 then r_step_292 N r.1 else some r.1))) = r_step_292 N τ1 := by
  rw [Option.bind_some, grd_t (show i32 0 by decide), if_pos rfl]
/-- a row behind what is there, stretched and moved -/
theorem NR.mvd {τ : St} {A L : List Evt} (h : PR2 N τ0 d k p c e) (hA : NR τ0 τs k p c e (A ++ L) τ) (hl : e + A.length + L.length ≤ 29999) (f b : Int) : ∃ τ', r_move N τ (e + A.length) f b = some τ' ∧ NR τ0 τs k p c e (A ++ mvA f b L) τ' ∧ ∀ a, a < 43 → el τ' a k = el τ a k := by
  obtain ⟨hHR, hT, hC, k0, k1, e0, e1, hN⟩ := h
  have lm : (mvA f b L).length = L.length := List.length_map _
  obtain ⟨τ', q1, q2, q3, q4⟩ := r_move' (N := N) (k := f) (b := b) (by omega) hA.2.2.2.2.2.2.2.rt (by omega) (by rw [hA.2.2.2.2.2.2.1, List.length_append]; omega) (by rw [hA.2.2.2.2.2.2.1, List.length_append]; omega)
  exact ⟨τ', q1, hA.ev q2 (by rw [q3, hA.2.2.2.2.2.2.1, List.length_append, lm]; omega) q4, fun a ha => q2.2.1 a k (Or.inl ha)⟩
end RK
