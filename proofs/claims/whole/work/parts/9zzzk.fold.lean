/-! expressions: the making of the children of a node -/
section EF
variable {N : Nat} {b : Bse}
theorem eou_len : ∀ {l : List Ech}, (eou l).length ≤ l.length
  | [] => Nat.le_refl _
  | x :: xs => by
    show ((match eO x with | some o => [o] | none => []) ++ eou xs).length ≤ xs.length + 1
    have := eou_len (l := xs)
    rw [List.length_append]
    cases eO x <;> simp <;> omega
/-- patterns beside one another -/
theorem kids_e {τ : St} {Kn : List Int} {lo0 hi0 w : Int} (hN : 30000001 ≤ N) (hP : bP b ≤ 4) (hw : 0 ≤ w) {x : Nat} (hx : x ≤ 12) : ∀ {l : List Ech} {j lo hi z c : Int}, ECs N b τ Kn j lo hi l → CHn τ lo0 hi0 (l.map eC) c → EBd w z l → (∀ y ∈ l, eO y ≠ none) → TKS N (UDl N x) (12 - x) τ (bV b) lo hi (bP b) Kn j (egs l) (HLv (13 - x) + w) (HLv (13 - x) + z) (ekk l) 0 0 [(4, c)] [] (eou l) [] []
  | [], j, lo, hi, z, c, _, hc, hb, _ => by
    have e : c = -1 := hc
    have hz : 0 ≤ z := hb
    have := HLv_b hx
    rw [e]
    exact kids_nil hN (by omega) (Nat.le_refl _)
  | y :: ys, j, lo, hi, z, c, h, hc, hb, ho => by
    obtain ⟨h1, ⟨k1, k2, k3, k4, k5⟩, h3⟩ := h
    obtain ⟨⟨c1, -, -⟩, c4⟩ := hc
    have hl := HLv_b hx
    have ih := kids_e hN hP hw hx h3 c4 hb.2 (fun y hy => ho y (List.mem_cons_of_mem _ hy))
    have le := h3.le.1
    rcases k5 with ⟨o, q1, q2, q3, q4⟩ | ⟨q1, -⟩
    · have ch : c = eC y := c1
      rw [ch]
      have e : eou (y :: ys) = o :: eou ys := by show (match eO y with | some o => [o] | none => []) ++ eou ys = _; rw [q1]; rfl
      rw [e]
      have b1 := hb.1
      exact kids_cons (m := eC y) hN hP ⟨k1.1, by have := k1.2; omega, by have := k1.2; omega⟩ ⟨by omega, by omega⟩ (by rw [if_neg k3.2.2]) rfl (q4.use hx) ih ⟨h1, by omega⟩ ⟨by have := k1.2; omega, Int.le_refl _⟩ ⟨by omega, Int.le_refl _, by omega⟩ ⟨by omega, by omega⟩ (by show eK y + ekk ys + 1 ≤ eK y + 2 + ekk ys; omega) (by omega) ⟨Int.le_refl _, by omega⟩
    · exact absurd q1 (ho y (by simp))
/-- arguments of a function that is applied at once -/
theorem fk_e {τ : St} {Kn : List Int} {lo0 hi0 w : Int} (hN : 30000001 ≤ N) (hP : bP b ≤ 4) (hw : 0 ≤ w) {x : Nat} (hx : x ≤ 12) : ∀ {l : List Ech} {j lo hi z c : Int}, ECs N b τ Kn j lo hi l → CHn τ lo0 hi0 (l.map eC) c → EBd w z l → TKS N (UDl N x) (12 - x) τ (bV b) lo hi (bP b) Kn j (egs l) (HLv (13 - x) + w) (HLv (13 - x) + z) (ekk l) 0 0 [(10, c)] [] (eou l) [] (eav l)
  | [], j, lo, hi, z, c, _, hc, hb => by
    have e : c = -1 := hc
    have hz : 0 ≤ z := hb
    have := HLv_b hx
    rw [e]
    exact fk_nil hN (by omega) (Nat.le_refl _)
  | y :: ys, j, lo, hi, z, c, h, hc, hb => by
    obtain ⟨h1, ⟨k1, k2, k3, k4, k5⟩, h3⟩ := h
    obtain ⟨⟨c1, -, -⟩, c4⟩ := hc
    have hl := HLv_b hx
    have ih := fk_e hN hP hw hx h3 c4 hb.2
    have le := h3.le.1
    have b1 := hb.1
    have ch : c = eC y := c1
    rw [ch]
    rcases k5 with ⟨o, q1, q2, q3, q4⟩ | ⟨q1, q2, q3⟩
    · have e : eou (y :: ys) = o :: eou ys := by show (match eO y with | some o => [o] | none => []) ++ eou ys = _; rw [q1]; rfl
      have e2 : eav (y :: ys) = eav ys := by show eA y ++ eav ys = _; rw [q2]; rfl
      rw [e, e2]
      exact fk_pat hN hP ⟨k1.1, by have := k1.2; omega, by have := k1.2; omega⟩ ⟨⟨k3.1, k3.2.1⟩, q3⟩ rfl (q4.use hx) ih ⟨h1, by omega⟩ ⟨by have := k1.2; omega, Int.le_refl _⟩ ⟨by omega, Int.le_refl _, by omega⟩ ⟨by omega, by omega⟩ (by show eK y + ekk ys + 1 ≤ eK y + 2 + ekk ys; omega) (by omega) ⟨Int.le_refl _, by omega⟩
    · have e : eou (y :: ys) = eou ys := by show (match eO y with | some o => [o] | none => []) ++ eou ys = _; rw [q1]; rfl
      rw [e]
      exact fk_fun hN hP ⟨k1.1, by have := k1.2; omega, by have := k1.2; omega⟩ ⟨⟨k3.1, k3.2.1⟩, q2⟩ rfl (q3.use hx) ih ⟨h1, by omega⟩ ⟨by have := k1.2; omega, Int.le_refl _⟩ ⟨by omega, Int.le_refl _, by omega⟩ ⟨by omega, by omega⟩ (by show eK y + ekk ys + 1 ≤ eK y + 2 + ekk ys; omega) (by omega) ⟨Int.le_refl _, by omega⟩ (fun q hq => ⟨(k4 q hq).1, by have := (k4 q hq).2; omega⟩)
/-- arguments of a function among pieces -/
theorem ak_e {τ : St} {Kn : List Int} {lo0 hi0 w : Int} (hN : 30000001 ≤ N) (hP : bP b ≤ 4) (hw : 0 ≤ w) {x : Nat} (hx : x ≤ 12) : ∀ {l : List Ech} {j lo hi z c : Int}, ECs N b τ Kn j lo hi l → bV b ≤ lo → CHn τ lo0 hi0 (l.map eC) c → EBd w z l → TKS N (UDl N x) (12 - x) τ (bV b) lo hi (bP b) Kn j (egs l) (HLv (13 - x) + w) (HLv (13 - x) + z) (ekk l) 0 0 [(9, c)] [] [] [] (eaz l)
  | [], j, lo, hi, z, c, _, _, hc, hb => by
    have e : c = -1 := hc
    have hz : 0 ≤ z := hb
    have := HLv_b hx
    rw [e]
    exact ak_nil hN (by omega) (Nat.le_refl _)
  | y :: ys, j, lo, hi, z, c, h, hv, hc, hb => by
    obtain ⟨h1, ⟨k1, k2, k3, k4, k5⟩, h3⟩ := h
    obtain ⟨⟨c1, -, -⟩, c4⟩ := hc
    have hl := HLv_b hx
    have ih := ak_e hN hP hw hx h3 (by have := k1.2; omega) c4 hb.2
    have le := h3.le.1
    have b1 := hb.1
    have ch : c = eC y := c1
    rw [ch]
    rcases k5 with ⟨o, q1, q2, q3, q4⟩ | ⟨q1, q2, q3⟩
    · have e : eaz (y :: ys) = (eC y, o) :: eaz ys := by show (match eO y with | some o => [(eC y, o)] | none => eA y) ++ eaz ys = _; rw [q1]; rfl
      rw [e]
      exact ak_pat hN hP ⟨k1.1, by have := k1.2; omega, by have := k1.2; omega⟩ (by have := k1.2; omega) ⟨⟨k3.1, k3.2.1⟩, q3⟩ rfl (q4.use hx) ih ⟨h1, by omega⟩ ⟨by have := k1.2; omega, Int.le_refl _⟩ ⟨by omega, Int.le_refl _, by omega⟩ ⟨by omega, by omega, by omega⟩ (by show eK y + ekk ys + 2 ≤ eK y + 2 + ekk ys; omega) (by omega) ⟨Int.le_refl _, by omega⟩ (by have := k1.2; omega)
    · have e : eaz (y :: ys) = eA y ++ eaz ys := by show (match eO y with | some o => [(eC y, o)] | none => eA y) ++ eaz ys = _; rw [q1]
      rw [e]
      exact ak_fun hN hP ⟨k1.1, by have := k1.2; omega, by have := k1.2; omega⟩ ⟨⟨k3.1, k3.2.1⟩, q2⟩ rfl (q3.use hx) ih ⟨h1, by omega⟩ ⟨by have := k1.2; omega, Int.le_refl _⟩ ⟨by omega, Int.le_refl _, by omega⟩ ⟨by omega, by omega⟩ (by show eK y + ekk ys + 1 ≤ eK y + 2 + ekk ys; omega) (by omega) ⟨Int.le_refl _, by omega⟩ (fun q hq => ⟨(k4 q hq).1, by have := (k4 q hq).2; omega⟩)
/-- the values lie among the children -/
theorem eaz_in {τ : St} {Kn : List Int} : ∀ {l : List Ech} {j lo hi : Int}, ECs N b τ Kn j lo hi l → bV b ≤ lo → ∀ q ∈ eaz l, bV b ≤ q.1 ∧ lo ≤ q.1 ∧ q.1 < hi
  | [], j, lo, hi, _, _, q, hq => absurd hq (by simp [eaz])
  | y :: ys, j, lo, hi, h, hv, q, hq => by
    obtain ⟨h1, ⟨k1, k2, k3, k4, k5⟩, h3⟩ := h
    have le := h3.le.1
    have hq' : q ∈ (match eO y with | some o => [(eC y, o)] | none => eA y) ++ eaz ys := hq
    rcases List.mem_append.1 hq' with m | m
    · rcases k5 with ⟨o, q1, q2, q3, q4⟩ | ⟨q1, q2, q3⟩
      · rw [q1] at m
        have e : q = (eC y, o) := by simpa using m
        rw [e]
        have := k1.2
        exact ⟨by omega, by omega, by omega⟩
      · rw [q1] at m
        have := k4 q m
        exact ⟨this.1, by omega, by omega⟩
    · have := eaz_in h3 (by have := k1.2; omega) q m
      have := k1.2
      exact ⟨by omega, by omega, by omega⟩
end EF
