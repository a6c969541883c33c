/-! rows of expressions: a part is appended; the loop -/
section RG
variable {N : Nat} {b : Bse} {Xo : Int → Prop} {dl : List (Int × Int)}
theorem ECn.h {τ : St} {Kn : List Int} {j lo hi r : Int} {l : List Ech} (hs : ECs N b τ Kn j lo hi l) (h : ECn τ lo hi r l) (h0 : 0 ≤ lo ∧ hi ≤ 32768) (hne : l ≠ []) : inb (el τ 86 r) 32768 ∧ i32 (el τ 87 r) ∧ lo ≤ el τ 86 r ∧ el τ 86 r < hi := by
  obtain ⟨h1, h2⟩ := h
  have mem := hs.le.2
  have q2 : inb (el τ 86 r) 32768 ∧ lo ≤ el τ 86 r ∧ el τ 86 r < hi := by
    rcases h2 with q | ⟨y, y1, y2⟩
    · exact absurd q hne
    · have m := mem y (List.mem_of_getLast? y1)
      rw [y2]
      exact ⟨⟨by omega, by omega⟩, by omega, by omega⟩
  have q1 : i32 (el τ 87 r) := by
    obtain ⟨y, ys, rfl⟩ : ∃ y ys, l = y :: ys := by cases l with | nil => exact absurd rfl hne | cons y ys => exact ⟨y, ys, rfl⟩
    have k := h1.1
    have e : el τ 87 r = eC y := k.1
    have := k.2.1.1
    rw [e]
    exact ⟨by omega, by omega⟩
  exact ⟨q2.1, q1, q2.2.1, q2.2.2⟩
/-- what was read last is appended to the row -/
theorem row_turn {τ : St} {Kn : List Int} {j lo hi hi' r d c : Int} {l : List Ech} {x : Ech} (hs : ECs N b τ Kn j lo hi l) (h : ECn τ lo hi r l) (hx : EC1 N b τ Kn (j + (egs l).length) x) (hc : eC x = c) (hr : ∀ y, y ∈ l ∨ y = x → ¬ (eL y ≤ r ∧ r < eH y)) (hxl : hi ≤ eL x) (hh : eH x ≤ hi') (h0 : 0 ≤ lo ∧ hi ≤ 32768 ∧ lo ≤ r) (τb : St) (hb : τb = se (apN τ r c) 92 r (el (apN τ r c) 92 r + 1)) : ECs N b τb Kn j lo hi' (l ++ [x]) ∧ ECn τb lo hi' r (l ++ [x]) ∧ (el τb 94 r = el τ 94 r ∧ el τb 93 r = el τ 93 r ∧ el τb 92 r = el τ 92 r + 1) ∧ (∀ (f : Nat) (i : Int), fl τb f i = fl τ f i) ∧ RDr lo d τ τb ∧ ∀ a i : Int, a < 85 → el τb a i = el τ a i := by
  obtain ⟨q1, q2⟩ := ECn.app hs h hx hc hr hxl hh
  have e : ∀ a i, ¬ (a = 92 ∧ i = r) → el τb a i = el (apN τ r c) a i := fun a i hq => by rw [hb, el_se, if_neg hq]
  have hr' : ∀ y ∈ l ++ [x], ¬ (eL y ≤ r ∧ r < eH y) := fun y hy => hr y (by
    rcases List.mem_append.1 hy with w | w
    · exact Or.inl w
    · exact Or.inr (by simpa using w))
  have cb : lo ≤ c := by have := hx.1.2.1; have := hs.le.1; omega
  have rd : RDr lo d τ (apN τ r c) := by
    refine apN_rd (RDr.rf _ _ _) ⟨h0.2.2, cb, ?_⟩
    by_cases hne : l = []
    · left; have w := h.1; rw [hne] at w; exact w
    · right; exact (ECn.h hs h ⟨h0.1, h0.2.1⟩ hne).2.2.1
  refine ⟨q1.cg (List.prefix_refl _) (fun y hy a i _ _ x3 x4 _ => e a i (fun w => hr' y hy (by rw [← w.2]; exact ⟨x3, x4⟩))), ECn.mv q1 q2 ⟨e 87 r (by omega), e 86 r (by omega)⟩ (Int.le_refl _) (fun y hy => ⟨e 94 _ (by omega), e 85 _ (by omega)⟩), ⟨?_, ?_, ?_⟩, fun f i => by rw [hb, fl_se, apN_fl], by rw [hb]; exact rd.sn 92 r _ (by omega) h0.2.2, fun a i ha => by rw [e a i (by omega), apN_el _ _ _ _ _ (by omega)]⟩
  · rw [e 94 r (by omega), apN_el _ _ _ _ _ (by omega)]
  · rw [e 93 r (by omega), apN_el _ _ _ _ _ (by omega)]
  · rw [hb, el_ses, apN_el _ _ _ _ _ (by omega)]
/-- the turn of the reference at a row that stands -/
theorem rr_rowB {σ τ : St} {d r c Kf sp : Int} (tk : TKr σ τ) (hK : (Kf = 1 ∧ sp = 38) ∨ (Kf = 2 ∧ sp = 59)) (hd : 0 ≤ d ∧ d < 500) (h72 : el τ 72 d = 1) (h73 : el τ 73 d = r) (h46 : fl τ 46 0 = c) (hr : inb r 32768) (hc : inb c 32768) (h3 : el τ 87 r = -1 ∨ inb (el τ 86 r) 32768) (h4 : i32 (el τ 87 r)) : rdK N Kf τ d = if fl σ 185 1 = sp then Option.bind (r_advance N (se (apN τ r c) 92 r (el (apN τ r c) 92 r + 1))) (fun r26 => r_begin N r26 (Kf + 1) (-1) 0) else some (sf (sf (se (apN τ r c) 92 r (el (apN τ r c) 92 r + 1)) 46 0 r) 41 0 (fl τ 41 0 - 1)) := by
  have k : rdK N Kf τ d = r_readRow N τ d sp Kf (Kf + 1) := by
    rcases hK with ⟨rfl, rfl⟩ | ⟨rfl, rfl⟩ <;> rfl
  have sg : isSgB sp := by unfold isSgB; omega
  rw [k, r_readRow, grd_t (by exact ⟨hd.1, by omega⟩), h72, grd_t (by decide), if_neg (by decide), tk.sign sg, Option.bind_some]
  simp only
  rw [h73, grd_t (by exact ⟨by have := hr.1; omega, by have := hr.2; omega⟩), if_neg (by have := hr.1; omega), rr_row71 hd h73 h46 hr hc h3 h4 (by split <;> decide)]
  by_cases e : fl σ 185 1 = sp
  · rw [if_pos e, if_pos e, if_neg (by decide)]
  · rw [if_neg e, if_neg e, if_pos rfl]
end RG
