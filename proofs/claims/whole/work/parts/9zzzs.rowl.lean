/-! rows of expressions: the loop -/
/-- budgets of a row, behind a sign -/
def RBe (x y cs op : Int) (π0 : Sh) (σ0 τ0 : St) (π : Sh) (σ τ : St) (s lw : Int) (l : List Ech) (nk : Int) (T : Nat) : Prop := EBd ((lf τ0 - lf τ + 28 * (20 - op) + 2 * cs) / 2 + 2) ((lf τ0 - lf τ + 28 * (20 - op) + 2 * cs + 2) / 2) l ∧ (ekk l : Int) + 10 * l.length + 12 * lf τ ≤ 12 * lf τ0 + 1 ∧ fl τ 16 0 + 3 * lf τ ≤ fl τ0 16 0 + 3 * lf τ0 ∧ ((egs l).length : Int) + 2 * lf τ + 2 * l.length ≤ 2 * lf τ0 ∧ nk + lf τ ≤ lf τ0 ∧ (T : Int) + 25 + 20 * lf τ ≤ 20 * lf τ0 ∧ (nn π : Int) + 8 * l.length ≤ nn π0 + 12 * (lf τ0 - lf τ) + 2 ∧ (sw π : Int) + 4 * cpc π0 σ0 x + 4 * cpc π0 σ0 y + 84 * l.length ≤ sw π0 + 4 * cpc π σ x + 4 * cpc π σ y + 150 * (lf τ0 - lf τ) + 2 * ln π (fl σ 210 s) + 6 * lw ∧ 2 * (l.length : Int) + lf τ ≤ lf τ0
/-- a row, before its next part is read -/
def RWA (N : Nat) (b : Bse) (dl : List (Int × Int)) (Xo : Int → Prop) (Kf cs op d r s place : Int) (L0 : List Stq) (Kn0 : List Int) (π0 : Sh) (σ0 τ0 : St) (π : Sh) (σ τ : St) (l : List Ech) (kn : List Int) (lw : Int) (T : Nat) : Prop := XEs b (XR Xo σ s) π σ τ (L0 ++ egs l) (Kn0 ++ kn) ∧ RQr (Kf + 4) π σ (nn π0) s place (eopz l) lw ∧ EFt (bX b) (bY b) π0 σ0 π σ ∧ RDr (fl τ0 16 0) d τ0 τ ∧ (fl τ 41 0 = d + 2 ∧ el τ 74 d = Kf ∧ el τ 72 d = 1 ∧ el τ 73 d = r) ∧ (el τ 74 (d + 1) = Kf + 1 ∧ el τ 72 (d + 1) = 0 ∧ el τ 73 (d + 1) = -1) ∧ fl τ 13 0 = op ∧ ECs N b τ (Kn0 ++ kn) L0.length (fl τ0 16 0) (fl τ 16 0) l ∧ ECn τ (fl τ0 16 0) (fl τ 16 0) r l ∧ (fl τ0 16 0 ≤ r ∧ r < fl τ 16 0) ∧ (∀ y ∈ l, ¬ (eL y ≤ r ∧ r < eH y)) ∧ (∀ y ∈ l, eO y ≠ none) ∧ (el τ 94 r = Kf ∧ el τ 93 r = place ∧ el τ 92 r = l.length) ∧ (∀ y ∈ egs l, y.1 = 99 → Uoe dl b y) ∧ l ≠ [] ∧ RBe (bX b) (bY b) cs op π0 σ0 τ0 π σ τ s lw l kn.length T
section RL1
variable {N : Nat} {b : Bse} {Xo : Int → Prop} {dl : List (Int × Int)}
/-- cells of a step are left alone by reading -/
theorem RQr.ef {X : Int → Prop} {K n0 s place lw : Int} {π π' : Sh} {σ σ' τ : St} {ops : List Kid} {L : List Stq} {Kn : List Int} (hc : CTX b dl) (hx : XEs b X π σ τ L Kn) (h : RQr K π σ n0 s place ops lw) (he : EFt (bX b) (bY b) π σ π' σ') : RQr K π' σ' n0 s place ops lw ∧ ∀ f : Nat, fl σ' f s = fl σ f s := by
  obtain ⟨q1, q2, q3, q4, -⟩ := h.s
  have e := hx.x hc
  have bd := hx.2.2.2.2.2.1
  have ox := bd.2.1.1.1
  have oy := bd.2.2.1.1.1
  rw [e.1] at ox
  rw [e.2] at oy
  have ns : s ≠ bX b ∧ s ≠ bY b := ⟨fun w => by have t := ox.2.2; rw [← w, q1.1.2.2] at t; exact absurd t (by decide), fun w => by have t := oy.2.2; rw [← w, q1.1.2.2] at t; exact absurd t (by decide)⟩
  have s0 := q1.2.1
  have hf : ∀ f : Nat, fl σ' f s = fl σ f s := fun f => he.2.1 f s q1.1.2.1 (by omega) (by omega) (by omega) (by omega)
  have ar1 := bd.2.1.ar
  have ar2 := bd.2.2.1.ar
  rw [e.1] at ar1
  rw [e.2] at ar2
  have na : ∀ a, ob π a 22 → a ≠ fl σ 1 (bX b) ∧ a ≠ fl σ 1 (bY b) := fun a ho => by
    constructor
    · intro w
      rcases ar1 with q | q
      · rw [← w] at q; have := ho.1; omega
      · rw [← w] at q; have t := q.2.2; rw [ho.2.2] at t; exact absurd t (by decide)
    · intro w
      rcases ar2 with q | q
      · rw [← w] at q; have := ho.1; omega
      · rw [← w] at q; have t := q.2.2; rw [ho.2.2] at t; exact absurd t (by decide)
  exact ⟨h.cg he.1 (fun f _ _ => hf f) (fun a j ho => he.2.2.1 a j ho.2.1 (na a ho).1 (na a ho).2), hf⟩
/-- after a fault the row is closed -/
theorem row_fault {K n0 s place lw l0 k0 : Int} {π : Sh} {σ τ : St} {ops : List Kid} {lp : Nat → Sh → St → Int → Int → Option (Sh × St × Int)} {n : Nat} {i o : Int} (hc : CTX b dl) (hr : RQr K π σ n0 s place ops lw) (hq : XQ b (XR Xo σ s) π σ τ l0 k0) (hx : fl σ 23 (bD b) = bX b ∧ fl σ 24 (bD b) = bY b) (hn : n0 ≤ nn π ∧ nn b.1 ≤ n0) (hX : ∀ x, Xo x → x < n0) (hl : ops.length ≤ 1500) (hL : l0 ≤ 19900) (hi : 0 ≤ i ∧ i < 3000) (hstop : ∀ π σ π' σ' o', fl σ 182 1 ≠ 0 → i32 (fl σ 182 1) → Df_add N π σ (fl σ 144 44) s = some (π', σ', o') → ob π (fl σ 144 44) 1 → lp n π σ s i = some (π', σ', o')) : ∃ π3 σ3 π4 σ4 o4 lw', GVr N K π σ s o π3 σ3 ∧ ob π s 10 ∧ lp n π3 σ3 s i = some (π4, σ4, o4) ∧ XQ b Xo π4 σ4 τ (l0 + 1) k0 ∧ FRn n0 π σ π3 σ3 ∧ FLs (bX b) π3 σ3 π4 σ4 ∧ (nn π4 : Int) ≤ nn π + 5 ∧ (sw π4 : Int) + 2 * ln π (fl σ 210 s) + 6 * lw + 4 * cpc π3 σ3 (bX b) ≤ sw π + lw' + 4 * cpc π4 σ4 (bX b) ∧ lw' ≤ 16 * (ops.length : Int) + 32 ∧ (∀ (f : Nat) (j : Int), j ≠ s → fl σ3 f j = fl σ f j) := by
  obtain ⟨a1, ⟨τt, a2⟩, a3, a4, L, Kn, a5, a6, a7⟩ := id hq
  have n56 := a1.1
  obtain ⟨q1, q2, q3, q4, -⟩ := hr.s
  obtain ⟨π3, σ3, lw', g1, g2, g3, g4, g5, g6, g7, g8⟩ := hr.give (N := N) (o := o) a5 hn.1 n56 (by omega)
  obtain ⟨p1, p2, p3, p4, p5⟩ := g4.s
  have n3 := g3.1.1
  have f1 : ∀ f : Nat, fl σ3 f 1 = fl σ f 1 := fun f => g8 f 1 (by have := q1.2.1; omega)
  have f44 : fl σ3 144 44 = bD b := by rw [g8 144 44 (by have := q1.2.1; omega)]; exact a4
  have fz := hq.f
  obtain ⟨π4, σ4, d1, d2, d3, d4, d5, d6⟩ := g4.add (N := N) (a := 0) g5 (by simp) (by rw [List.length_append]; simp; omega) hX (by omega) (by omega)
  have sx : fl σ3 23 (bD b) = bX b := by
    have hD : bD b < nn b.1 := hc.2.1.2
    rw [g3.2.1 23 (bD b) (by omega)]; exact hx.1
  rw [sx] at d3 d6
  have b6 := hc.2.2.1
  have x1 : ∀ f : Nat, fl σ4 f 1 = fl σ f 1 := fun f => by rw [d3.2.1 f 1 (by omega) (by omega)]; exact f1 f
  have s1 := q1.2.1
  have ar : fl σ3 1 (bX b) < 0 ∨ 56 ≤ fl σ3 1 (bX b) := by have := g5.2.1.a56; rw [sx] at this; exact this
  refine ⟨π3, σ3, π4, σ4, _, 2 * ln π3 (fl σ3 210 s) + 6 * lw', g1, g2, hstop π3 σ3 π4 σ4 _ (by rw [f1]; exact fz.1) (by rw [f1]; exact fz.2) (by rw [f44]; exact d1) (by rw [f44]; exact d2), ⟨a1.ext (g3.1.tr d3.1), ⟨τt, a2.cg (fun f _ => x1 f) (fun j => ?_) (fun _ _ => rfl) (fun _ => rfl)⟩, ⟨by rw [x1]; exact a3.1, by rw [x1]; exact a3.2.1, a3.2.2⟩, ?_, _, Kn, d4, by rw [List.length_append]; simp; omega, by omega⟩, g3, d3, by omega, by omega, ?_, g8⟩
  · rw [d3.2.2.1 2 j (by omega) (by omega), g3.2.2 2 j (by omega)]
  · rw [d3.2.1 144 44 (by omega) (by omega)]; exact f44
  · rw [if_neg (by simp)] at p5
    have w := p1.2.2.2.2.2.2.1
    rw [List.length_append] at w
    simp at w
    omega
end RL1
