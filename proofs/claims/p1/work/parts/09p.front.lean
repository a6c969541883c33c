section XH
variable {D : va_G} {A : Nat → Prop} {H0 H : Heap} {locs : List Loc}
theorem Hp.re {ws ws' : va_W} (h : Hp D A H0 H locs ws) (f : Nat → Nat) (hf : ∀ (k : Nat) (q : Nat × va_E), ws'[k]? = some q → ws[f k]? = some q) (inj : ∀ i j, i < ws'.length → j < ws'.length → f i = f j → i = j) : Hp D A H0 H locs ws' :=
  ⟨fun k q hq => h.1 (f k) q (hf k q hq), ⟨fun i j p q hi hj e => inj i j (List.getElem?_eq_some_iff.mp hi).1 (List.getElem?_eq_some_iff.mp hj).1 (h.2.1.1 (f i) (f j) p q (hf i p hi) (hf j q hj) e), fun k q hq => h.2.1.2 (f k) q (hf k q hq)⟩, h.2.2.1, h.2.2.2⟩
theorem Hp.front {ws : va_W} {x : Nat × va_E} (h : Hp D A H0 H locs (ws ++ [x])) : Hp D A H0 H locs (x :: ws) := by
  refine h.re (fun k => if k = 0 then ws.length else k - 1) (fun k q hq => ?_) (fun i j hi hj e => ?_)
  · cases k with
    | zero => simpa using hq
    | succ k =>
      have hk : ws[k]? = some q := by simpa using hq
      have hl := (List.getElem?_eq_some_iff.mp hk).1
      simp only [Nat.succ_ne_zero, if_false, Nat.add_sub_cancel]
      rw [List.getElem?_append_left hl]
      exact hk
  · simp only [List.length_cons] at hi hj
    cases i with
    | zero =>
      cases j with
      | zero => rfl
      | succ j => simp at e; omega
    | succ i =>
      cases j with
      | zero => simp at e; omega
      | succ j => simp at e; omega
theorem Hp.swap {ws : va_W} {x y : Nat × va_E} (h : Hp D A H0 H locs (x :: y :: ws)) : Hp D A H0 H locs (y :: x :: ws) := by
  refine h.re (fun k => if k = 0 then 1 else if k = 1 then 0 else k) (fun k q hq => ?_) (fun i j hi hj e => ?_)
  · match k, hq with
    | 0, hq => simpa using hq
    | 1, hq => simpa using hq
    | k + 2, hq => simpa using hq
  · match i, j, e with
    | 0, 0, _ => rfl
    | 0, 1, e => simp at e
    | 0, j + 2, e => simp at e
    | 1, 0, e => simp at e
    | 1, 1, _ => rfl
    | 1, j + 2, e => simp at e
    | i + 2, 0, e => simp at e
    | i + 2, 1, e => simp at e
    | i + 2, j + 2, e => simpa using e
theorem Hp.swap3 {ws : va_W} {x y z : Nat × va_E} (h : Hp D A H0 H locs (x :: y :: z :: ws)) : Hp D A H0 H locs (y :: z :: x :: ws) := by
  refine h.re (fun k => if k = 0 then 1 else if k = 1 then 2 else if k = 2 then 0 else k) (fun k q hq => ?_) (fun i j hi hj e => ?_)
  · match k, hq with
    | 0, hq => simpa using hq
    | 1, hq => simpa using hq
    | 2, hq => simpa using hq
    | k + 3, hq => simpa using hq
  · try dsimp only at e
    repeat' (split at e)
    all_goals omega
theorem Hp.swap4 {ws : va_W} {x y z v : Nat × va_E} (h : Hp D A H0 H locs (x :: y :: z :: v :: ws)) : Hp D A H0 H locs (y :: z :: v :: x :: ws) := by
  refine h.re (fun k => if k = 0 then 1 else if k = 1 then 2 else if k = 2 then 3 else if k = 3 then 0 else k) (fun k q hq => ?_) (fun i j hi hj e => ?_)
  · match k, hq with
    | 0, hq => simpa using hq
    | 1, hq => simpa using hq
    | 2, hq => simpa using hq
    | 3, hq => simpa using hq
    | k + 4, hq => simpa using hq
  · try dsimp only at e
    repeat' (split at e)
    all_goals omega
end XH
