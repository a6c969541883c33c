/-! functions, as tasks -/
/-- what a function of one pattern, or of two, makes: kind and numbers -/
def fK (f a b c d : Int) : Int × Int × Int × Int × Int :=
  if f = 0 then (9, a, b, 0, 0) else if f = 1 then (9, b, a, 0, 0) else if f = 2 then (10, a, b, 0, 0) else if f = 3 then (11, a, b, 0, 0) else if f = 4 then (12, 0, 0, 0, 0) else if f = 5 then (13, a, 0, 0, 0) else if f = 6 then (14, a, b, 0, 0) else if f = 9 then (17, a, 0, 0, 0) else if f = 10 then (18, a, 0, 0, 0) else if f = 11 then (15, a, 0, 0, 0) else if f = 13 then (19, a, 0, 0, 0) else if f = 14 then (23, 0, 0, 0, 0) else if f = 15 then (24, 0, 0, 0, 0) else if f = 16 then (21, a, 0, 0, 0) else if f = 17 then (22, a, 0, 0, 0) else if f = 19 then (16, a, b, c, d) else (20, a, b, c, d)
def isOne (f : Int) : Prop := f = 0 ∨ f = 1 ∨ f = 2 ∨ f = 3 ∨ f = 4 ∨ f = 9 ∨ f = 10 ∨ f = 13 ∨ f = 16 ∨ f = 17 ∨ f = 20
def isTwo (f : Int) : Prop := f = 5 ∨ f = 6 ∨ f = 11 ∨ f = 14 ∨ f = 15 ∨ f = 19
/-- a node of a function: its number and numbers -/
def FN (τ : St) (n place f a b c d : Int) : Prop := el τ 93 n = place ∧ el τ 92 n = f ∧ el τ 91 n = a ∧ el τ 90 n = b ∧ el τ 89 n = c ∧ el τ 88 n = d
theorem FN.cg {τ τ' : St} {lo hi n place f a b c d : Int} (h : ∀ a i : Int, 85 ≤ a → a ≤ 94 → lo ≤ i → i < hi → el τ' a i = el τ a i) (hn : ND lo hi n) (k : FN τ n place f a b c d) : FN τ' n place f a b c d := by
  unfold FN
  rw [h 93 n (by omega) (by omega) hn.2.1 hn.2.2, h 92 n (by omega) (by omega) hn.2.1 hn.2.2, h 91 n (by omega) (by omega) hn.2.1 hn.2.2, h 90 n (by omega) (by omega) hn.2.1 hn.2.2, h 89 n (by omega) (by omega) hn.2.1 hn.2.2, h 88 n (by omega) (by omega) hn.2.1 hn.2.2]
  exact k
section FU
variable {N : Nat}
theorem ofF_one {τ : St} {n place f a b c d : Int} (hn : inb n 32768) (h : FN τ n place f a b c d) (hf : isOne f) : r_ofFunction N τ n = r_one N τ (fK f a b c d).1 (fK f a b c d).2.1 (fK f a b c d).2.2.1 (fK f a b c d).2.2.2.1 (fK f a b c d).2.2.2.2 place := by
  obtain ⟨h1, h2, h3, h4, h5, h6⟩ := h
  rw [r_ofFunction, grd_t hn, bnd, bnd, bnd, h1, h2, h3, h4, h5, h6]
  rcases hf with hf | hf | hf | hf | hf | hf | hf | hf | hf | hf | hf <;> subst hf <;> rw [grd_t (by decide)] <;> simp [fK]
theorem ofF_two {τ : St} {n place f a b c d : Int} (hn : inb n 32768) (h : FN τ n place f a b c d) (hf : isTwo f) : r_ofFunction N τ n = r_two N τ (fK f a b c d).1 (fK f a b c d).2.1 (fK f a b c d).2.2.1 (fK f a b c d).2.2.2.1 (fK f a b c d).2.2.2.2 place := by
  obtain ⟨h1, h2, h3, h4, h5, h6⟩ := h
  rw [r_ofFunction, grd_t hn, bnd, bnd, bnd, h1, h2, h3, h4, h5, h6]
  rcases hf with hf | hf | hf | hf | hf | hf <;> subst hf <;> rw [grd_t (by decide)] <;> simp [fK]
theorem fun_plain {τ : St} {n place f a b c d : Int} (hn : inb n 32768) (h : FN τ n place f a b c d) (hf : isOne f ∨ f = 14 ∨ f = 15) : r_function N τ n = r_ofFunction N τ n := by
  have h2 := h.2.1
  unfold isOne at hf
  rw [r_function, grd_t hn, bnd, h2, grd_t (by exact ⟨by omega, by omega⟩)]
  iterate 8 rw [if_neg (by omega)]
  rw [r_function_59, grd_t (by decide), if_pos rfl, bsm]
/-- the tasks of a function that has a FUN -/
def fts (f n F : Int) : List (Int × Int) :=
  if f = 7 then [(13, n), (11, F), (16, n), (17, n)] else if f = 8 then [(13, n), (11, F), (17, n)] else if f = 12 then [(20, n), (11, F), (21, n)] else if f = 18 then [(13, n), (18, n), (14, n), (19, n), (11, F), (17, n)] else [(13, n), (11, F), (15, n)]
def isFn (f : Int) : Prop := f = 5 ∨ f = 6 ∨ f = 7 ∨ f = 8 ∨ f = 11 ∨ f = 12 ∨ f = 18 ∨ f = 19
theorem fun_fun {τ : St} {n f F : Int} (hn : inb n 32768) (h2 : el τ 92 n = f) (h87 : el τ 87 n = F) (hf : isFn f) (hT : 0 ≤ fl τ 65 0 ∧ fl τ 65 0 ≤ 19994) : r_function N τ n = some (pTs τ (fts f n F)) := by
  have E : ∀ (ts : List (Int × Int)) (a j : Int), a ≠ 55 → a ≠ 56 → el (pTs τ ts) a j = el τ a j := fun ts a j h1 h2 => pTs_el ts a j (Or.inl ⟨h1, h2⟩)
  have L : ∀ (ts : List (Int × Int)) (a b : Int), ts.length ≤ 5 → r_task N (pTs τ ts) a b = some (pTs τ ((a, b) :: ts)) := fun ts a b h => by rw [r_task' (by rw [pTs_65]; omega)]; rfl
  have L0 : ∀ (a b : Int), r_task N τ a b = some (pTs τ [(a, b)]) := fun a b => L [] a b (by simp)
  have f54 : r_function N τ n = r_function_54 N τ n f := by
    rw [r_function, grd_t hn, bnd, h2, grd_t (by unfold isFn at hf; exact ⟨by omega, by omega⟩)]
    rcases hf with hf | hf | hf | hf | hf | hf | hf | hf <;> subst hf <;> simp
  rw [f54, r_function_54, r_function_59, grd_t (by decide), if_neg (by decide)]
  rcases hf with hf | hf | hf | hf | hf | hf | hf | hf <;> subst hf <;> rw [grd_t (by decide)] <;> simp only [r_function_88, r_function_121, r_function_134, L0, Option.bind_some, grd_t hn, grd_t (show i32 5 by decide), grd_t (show i32 6 by decide), grd_t (show i32 7 by decide), grd_t (show i32 8 by decide), grd_t (show i32 11 by decide), grd_t (show i32 12 by decide), grd_t (show i32 18 by decide), grd_t (show i32 19 by decide), E _ 87 n (by decide) (by decide), h87, L _ _ _ (show [_].length ≤ 5 by simp), L _ _ _ (show [_, _].length ≤ 5 by simp), L _ _ _ (show [_, _, _].length ≤ 5 by simp), L _ _ _ (show [_, _, _, _].length ≤ 5 by simp), L _ _ _ (show [_, _, _, _, _].length ≤ 5 by simp)] <;> simp [fts]
end FU
