/-! rows of expressions: the step in the making (the parts are counted) -/
section RQ1
variable {N : Nat} {Xo : Int → Prop}
def RWt (π : Sh) (σ : St) (n0 s kd place b : Int) (ops : List Kid) (lw : Int) : Prop := OPs π σ n0 s ops ∧ WTs π σ n0 s ops lw ∧ fl σ 202 s = wS ops ∧ (ops ≠ [] → lw = ln π (fl σ 210 s)) ∧ (fl σ 200 s = kd ∧ fl σ 201 s = place ∧ fl σ 203 s = b ∧ fl σ 206 s = 1) ∧ 56 ≤ n0 ∧ 0 ≤ lw
theorem RWt.cg {π π' : Sh} {σ σ' : St} {n0 s kd place b lw : Int} {ops : List Kid} (h : RWt π σ n0 s kd place b ops lw) (he : ext π π') (hf : ∀ f : Nat, 200 ≤ f → f ≤ 213 → fl σ' f s = fl σ f s) (ha : ∀ a j : Int, ob π a 22 → el σ' a j = el σ a j) : RWt π' σ' n0 s kd place b ops lw := by
  obtain ⟨h1, h2, h3, h4, h5, h6, h7⟩ := h
  refine ⟨h1.cg he (fun f hx => hf f (by omega) (by omega)) (fun j => ha _ j h1.2.2.2.1), h2.cg he (fun f a c => hf f (by omega) (by omega)) (fun f j _ _ ho => ha _ j ho), by rw [hf 202 (by omega) (by omega)]; exact h3, fun hne => ?_, ?_, h6, h7⟩
  · rw [hf 210 (by omega) (by omega), (he.2.2 _ h1.2.2.2.1.2.1).2]; exact h4 hne
  · rw [hf 200 (by omega) (by omega), hf 201 (by omega) (by omega), hf 203 (by omega) (by omega), hf 206 (by omega) (by omega)]; exact h5
theorem rt_give {π : Sh} {σ τ : St} {n0 s kd place b lw o x y D P : Int} {ops : List Kid} {L : List Stq} {Kn : List Int} (h : RWt π σ n0 s kd place b ops lw) (hb : BDy (XR Xo σ s) π σ τ D P L Kn) (hn : n0 ≤ nn π) (h56 : 56 ≤ nn π) (hl : ops.length ≤ 3000) : ∃ π' σ' lw', Sp_giveWeighted N π σ s o x y = some (π', σ') ∧ ob π s 10 ∧ FRn n0 π σ π' σ' ∧ RWt π' σ' n0 s kd place b (ops ++ [(o, x, y)]) lw' ∧ BDy (XR Xo σ' s) π' σ' τ D P L Kn ∧ nn π' ≤ nn π + 4 ∧ ((sw π' : Int) + 2 * ln π (fl σ 210 s) + 6 * lw ≤ sw π + 2 * ln π' (fl σ' 210 s) + 6 * lw') ∧ (∀ (f : Nat) (i : Int), i ≠ s → fl σ' f i = fl σ f i) := by
  obtain ⟨h1, h2, h3, h4, h5, h6, h7⟩ := h
  obtain ⟨π', σ', lw', g1, g2, g3, g4, g5, g6, g7, g8, g9, g10, g11⟩ := c_gw (N := N) (o := o) (x := x) (y := y) h1 h2 h3 hn hl h4
  have sn := h1.2.1
  have sl := h1.1.2.1
  have nge := g2.1.1
  refine ⟨π', σ', lw', g1, h1.1, g2, ⟨g5, g6, g7, fun _ => g8, by rw [g9 200 s (by omega), g9 201 s (by omega), g9 203 s (by omega), g9 206 s (by omega)]; exact h5, h6, ?_⟩, ?_, g3, g4, fun f i hi => g9 f i (by omega)⟩
  · have := g5.2.2.2.2.2.1; omega
  · refine hb.own g2.1 (fun f i hi hx => g9 f i (fun e => hx (Or.inr (Or.inl e.1)))) (fun a j ha hx => ?_) (fun z hz => ?_) h56
    · have q : 56 ≤ a → a ≠ fl σ 210 s ∧ a ≠ fl σ 211 s ∧ a ≠ fl σ 212 s ∧ a ≠ fl σ 213 s := fun h => ⟨fun e => hx (Or.inr (Or.inr ⟨h, Or.inl e⟩)), fun e => hx (Or.inr (Or.inr ⟨h, Or.inr (Or.inl e)⟩)), fun e => hx (Or.inr (Or.inr ⟨h, Or.inr (Or.inr (Or.inl e))⟩)), fun e => hx (Or.inr (Or.inr ⟨h, Or.inr (Or.inr (Or.inr e))⟩))⟩
      by_cases c : 56 ≤ a
      · exact g10 a j ha (q c).1 (q c).2.1 (q c).2.2.1 (q c).2.2.2
      · exact g2.2.2 a j (by omega)
    · have up : ∀ f : Nat, 210 ≤ f → f ≤ 213 → fl σ' f s < nn π' := fun f f1 f2 => by
        rcases (show f = 210 ∨ f = 211 ∨ f = 212 ∨ f = 213 by omega) with rfl | rfl | rfl | rfl
        · exact g5.2.2.2.1.2.1
        · rcases g6 with q | q
          · exact absurd q.1 (by simp)
          · exact q.2.1.1.2.1
        · rcases g6 with q | q
          · exact absurd q.1 (by simp)
          · exact q.2.2.1.1.2.1
        · rcases g6 with q | q
          · exact absurd q.1 (by simp)
          · exact q.2.2.2.1.1.2.1
      have hb11 := hb.2.2.2.2.2.2.2.1
      rcases hz with q | q | ⟨q56, q⟩
      · have := hb11 z (Or.inl q)
        exact ⟨Or.inl (Or.inl q), this.1, by omega⟩
      · exact ⟨Or.inl (Or.inr (Or.inl q)), by omega, by omega⟩
      · obtain ⟨f, f1, f2, fz⟩ : ∃ f : Nat, 210 ≤ f ∧ f ≤ 213 ∧ z = fl σ' f s := by
          rcases q with q | q | q | q
          · exact ⟨210, by omega, by omega, q⟩
          · exact ⟨211, by omega, by omega, q⟩
          · exact ⟨212, by omega, by omega, q⟩
          · exact ⟨213, by omega, by omega, q⟩
        refine ⟨?_, q56, by rw [fz]; exact up f f1 f2⟩
        rcases g11 f f1 f2 with e | e
        · refine Or.inl (Or.inr (Or.inr ⟨q56, ?_⟩))
          rw [e] at fz
          rcases (show f = 210 ∨ f = 211 ∨ f = 212 ∨ f = 213 by omega) with rfl | rfl | rfl | rfl
          · exact Or.inl fz
          · exact Or.inr (Or.inl fz)
          · exact Or.inr (Or.inr (Or.inl fz))
          · exact Or.inr (Or.inr (Or.inr fz))
        · exact Or.inr (by omega)
theorem rt_add {π : Sh} {σ τ : St} {n0 s K place a b lw D P : Int} {ops : List Kid} {L : List Stq} {Kn : List Int} (hb : BDy (XR Xo σ s) π σ τ D P L Kn) (hr : RWt π σ n0 s (kcO K) place b ops lw) (hK : K = 4 ∨ K = 6 ∨ K = 7) (hne : ops ≠ []) (hl : ops.length ≤ 2000) (hX : ∀ x, Xo x → x < n0) (hL : L.length ≤ 20000) (h56 : 56 ≤ nn π) (hb7 : K = 7 → b = a) : ∃ π' σ', Df_add N π σ D s = some (π', σ', P + L.length) ∧ ob π D 1 ∧ FLs (fl σ 23 D) π σ π' σ' ∧ BDy Xo π' σ' τ D P (L ++ [(K, place, a, 0, 0, 0, 1, ops)]) Kn ∧ nn π' ≤ nn π + 1 ∧ (sw π' : Int) + 4 * cpc π σ (fl σ 23 D) ≤ sw π + 4 * cpc π' σ' (fl σ 23 D) := by
  obtain ⟨h1, h2, h3, h4, ⟨h5, h5', h5'', h5'''⟩, h6, h7⟩ := hr
  have lw' := h4 hne
  obtain ⟨o1, o2, o3, o4, o5, o6, o7, o8⟩ := h1
  rcases h2 with q | ⟨w1, ⟨a1, a2, a3⟩, ⟨b1, b2, b3⟩, ⟨c1, c2, c3⟩, w5, w6, w7, w8⟩
  · exact absurd q.1 hne
  have bd : BDy Xo π σ τ D P L Kn := hb.un h56
  have sq : SQ π σ s (K, place, a, 0, 0, 0, 1, ops) := by
    refine Or.inr ⟨(show K ≠ 99 by omega), o1, ⟨h5, fun e => absurd e (show ¬ K = 1 by omega), fun _ _ _ => ?_, fun e => ?_, fun e => absurd e (show ¬ (K = 8 ∨ K = 16 ∨ K = 20) by omega), fun e => absurd e (show ¬ (K = 16 ∨ K = 20) by omega), fun _ => ⟨⟨a1, by show (ops.length : Int) ≤ _; omega, by omega⟩, ⟨b1, by show (ops.length : Int) ≤ _; omega, by omega, by omega⟩, ⟨c1, by show (ops.length : Int) ≤ _; omega, by omega⟩, w7, w8⟩, fun e => absurd hK e⟩, h5', ⟨h5''', Or.inr rfl⟩, o3, hl, o4, o6, by omega, by omega, o8⟩
    · show fl σ 202 s = if K = 11 then -a else if K = 4 ∨ K = 6 ∨ K = 7 then wS ops else a
      rw [if_neg (by omega), if_pos hK]; exact h3
    · have e' : 7 ≤ K := e
      have k7 : K = 7 := by omega
      show fl σ 203 s = if K = 7 then a else if K = 21 ∨ K = 22 then 1000003 * 0 else 0
      rw [if_pos k7, h5'']; exact hb7 k7
  have ow : own Xo π σ s := by
    refine ⟨fun q => by have := hX _ q; omega, fun f f1 f2 => ?_⟩
    rcases (show f = 210 ∨ f = 211 ∨ f = 212 ∨ f = 213 by omega) with rfl | rfl | rfl | rfl
    · exact ⟨o4.2.1, fun q => by have := hX _ q; omega⟩
    · exact ⟨a1.2.1, fun q => by have := hX _ q; omega⟩
    · exact ⟨b1.2.1, fun q => by have := hX _ q; omega⟩
    · exact ⟨c1.2.1, fun q => by have := hX _ q; omega⟩
  obtain ⟨π', σ', q1, q2, q3, q4, q5, q6, q7⟩ := c_dfAdd (N := N) h56 bd hL sq ow
  rw [q6] at q5
  exact ⟨π', σ', q1, bd.1.1, q2, q3, q4, q5⟩
def RWu (π : Sh) (σ : St) (n0 s place : Int) (ops : List Kid) : Prop := OPs π σ n0 s ops ∧ (fl σ 211 s = -1 ∧ fl σ 212 s = -1 ∧ fl σ 213 s = -1) ∧ (fl σ 200 s = 8 ∧ fl σ 201 s = place ∧ fl σ 206 s = 1) ∧ 56 ≤ n0
theorem RWu.cg {π π' : Sh} {σ σ' : St} {n0 s place : Int} {ops : List Kid} (h : RWu π σ n0 s place ops) (he : ext π π') (hf : ∀ f : Nat, 200 ≤ f → f ≤ 213 → fl σ' f s = fl σ f s) (ha : ∀ a j : Int, ob π a 22 → el σ' a j = el σ a j) : RWu π' σ' n0 s place ops := by
  obtain ⟨h1, h2, h3, h4⟩ := h
  refine ⟨h1.cg he (fun f hx => hf f (by omega) (by omega)) (fun j => ha _ j h1.2.2.2.1), ?_, ?_, h4⟩
  · rw [hf 211 (by omega) (by omega), hf 212 (by omega) (by omega), hf 213 (by omega) (by omega)]; exact h2
  · rw [hf 200 (by omega) (by omega), hf 201 (by omega) (by omega), hf 206 (by omega) (by omega)]; exact h3
theorem ru_give {π : Sh} {σ τ : St} {n0 s place o D P : Int} {ops : List Kid} {L : List Stq} {Kn : List Int} (h : RWu π σ n0 s place ops) (hb : BDy (XR Xo σ s) π σ τ D P L Kn) (hn : n0 ≤ nn π) (h56 : 56 ≤ nn π) (hl : ops.length ≤ 3000) : ∃ π' σ', Sp_give N π σ s o = some (π', σ', s) ∧ ob π s 10 ∧ FRn n0 π σ π' σ' ∧ RWu π' σ' n0 s place (ops ++ [(o, 1, 1)]) ∧ BDy (XR Xo σ' s) π' σ' τ D P L Kn ∧ nn π' ≤ nn π + 1 ∧ ((sw π' : Int) + 2 * ln π (fl σ 210 s) ≤ sw π + 2 * ln π' (fl σ' 210 s)) ∧ (∀ (f : Nat) (i : Int), i ≠ s → fl σ' f i = fl σ f i) := by
  obtain ⟨h1, h2, h3, h6⟩ := h
  obtain ⟨π', σ', g1, g2, g3, g4, g5, g6, g7, g8⟩ := c_give (N := N) (o := o) h1 hn hl (1, 1)
  have sn := h1.2.1
  have sl := h1.1.2.1
  have nge := g2.1.1
  have k : ∀ f : Nat, f ≠ 209 → f ≠ 210 → fl σ' f s = fl σ f s := fun f a b => g6 f s (by omega)
  refine ⟨π', σ', g1, h1.1, g2, ⟨g5, by rw [k 211 (by omega) (by omega), k 212 (by omega) (by omega), k 213 (by omega) (by omega)]; exact h2, by rw [k 200 (by omega) (by omega), k 201 (by omega) (by omega), k 206 (by omega) (by omega)]; exact h3, h6⟩, ?_, g3, g4.1, fun f i hi => g6 f i (by omega)⟩
  refine hb.own g2.1 (fun f i hi hx => g6 f i (fun e => hx (Or.inr (Or.inl e.1)))) (fun a j ha hx => ?_) (fun z hz => ?_) h56
  · by_cases c : 56 ≤ a
    · exact g7 a j ha (fun e => hx (Or.inr (Or.inr ⟨c, Or.inl e⟩)))
    · exact g2.2.2 a j (by omega)
  · have hb11 := hb.2.2.2.2.2.2.2.1
    rcases hz with q | q | ⟨q56, q⟩
    · have := hb11 z (Or.inl q)
      exact ⟨Or.inl (Or.inl q), this.1, by omega⟩
    · exact ⟨Or.inl (Or.inr (Or.inl q)), by omega, by omega⟩
    · rw [k 211 (by omega) (by omega), k 212 (by omega) (by omega), k 213 (by omega) (by omega), h2.1, h2.2.1, h2.2.2] at q
      have q1 : z = fl σ' 210 s := by omega
      have up := g5.2.2.2.1.2.1
      refine ⟨?_, q56, by omega⟩
      rcases g8 with e | e
      · exact Or.inl (Or.inr (Or.inr ⟨q56, Or.inl (by rw [q1, e])⟩))
      · exact Or.inr (by omega)
theorem ru_add {π : Sh} {σ τ : St} {n0 s place a D P : Int} {ops : List Kid} {L : List Stq} {Kn : List Int} (hb : BDy (XR Xo σ s) π σ τ D P L Kn) (hr : RWu π σ n0 s place ops) (hl : ops.length ≤ 2000) (hX : ∀ x, Xo x → x < n0) (hL : L.length ≤ 20000) (h56 : 56 ≤ nn π) : ∃ π' σ', Df_add N π σ D s = some (π', σ', P + L.length) ∧ ob π D 1 ∧ FLs (fl σ 23 D) π σ π' σ' ∧ BDy Xo π' σ' τ D P (L ++ [(5, place, a, 0, 0, 0, 1, ops)]) Kn ∧ nn π' ≤ nn π + 1 ∧ (sw π' : Int) + 4 * cpc π σ (fl σ 23 D) ≤ sw π + 4 * cpc π' σ' (fl σ 23 D) := by
  obtain ⟨h1, h2, h3, h6⟩ := hr
  obtain ⟨o1, o2, o3, o4, o5, o6, o7, o8⟩ := h1
  have bd : BDy Xo π σ τ D P L Kn := hb.un h56
  have sq : SQ π σ s (5, place, a, 0, 0, 0, 1, ops) := by
    refine Or.inr ⟨(by decide : (5 : Int) ≠ 99), o1, ⟨h3.1, fun e => absurd e (show ¬ (5 : Int) = 1 by decide), fun _ _ e => absurd rfl e, fun e => absurd e (show ¬ (7 : Int) ≤ 5 by decide), fun e => absurd e (show ¬ ((5 : Int) = 8 ∨ (5 : Int) = 16 ∨ (5 : Int) = 20) by decide), fun e => absurd e (show ¬ ((5 : Int) = 16 ∨ (5 : Int) = 20) by decide), fun e => absurd e (show ¬ ((5 : Int) = 4 ∨ (5 : Int) = 6 ∨ (5 : Int) = 7) by decide), fun _ => by rw [h2.2.1]; decide⟩, h3.2.1, ⟨h3.2.2, Or.inr rfl⟩, o3, hl, o4, o6, by omega, by omega, o8⟩
  have ow : own Xo π σ s := by
    refine ⟨fun q => by have := hX _ q; omega, fun f f1 f2 => ?_⟩
    have nx : ∀ x, x < 0 → ¬ Xo x := fun x hx q => by have := bd.2.2.2.2.2.2.2.1 x q; omega
    rcases (show f = 210 ∨ f = 211 ∨ f = 212 ∨ f = 213 by omega) with rfl | rfl | rfl | rfl
    · exact ⟨o4.2.1, fun q => by have := hX _ q; omega⟩
    · rw [h2.1]; exact ⟨by omega, nx _ (by decide)⟩
    · rw [h2.2.1]; exact ⟨by omega, nx _ (by decide)⟩
    · rw [h2.2.2]; exact ⟨by omega, nx _ (by decide)⟩
  obtain ⟨π', σ', q1, q2, q3, q4, q5, q6, q7⟩ := c_dfAdd (N := N) h56 bd hL sq ow
  rw [q6] at q5
  exact ⟨π', σ', q1, bd.1.1, q2, q3, q4, q5⟩
/-- the row of an expression: K 5 beside one another, K 6 one after another -/
def RQr (K : Int) (π : Sh) (σ : St) (n0 s place : Int) (ops : List Kid) (lw : Int) : Prop := (K = 6 ∧ RWt π σ n0 s 5 place 0 ops lw) ∨ (K = 5 ∧ lw = 0 ∧ RWu π σ n0 s place ops)
/-- a pattern is given to it -/
def GVr (N : Nat) (K : Int) (π : Sh) (σ : St) (s o : Int) (π' : Sh) (σ' : St) : Prop := (K = 6 → Sp_giveWeighted N π σ s o 1 1 = some (π', σ')) ∧ (K = 5 → Sp_give N π σ s o = some (π', σ', s))
theorem RQr.s {K n0 s place lw : Int} {π : Sh} {σ : St} {ops : List Kid} (h : RQr K π σ n0 s place ops lw) : OPs π σ n0 s ops ∧ 56 ≤ n0 ∧ 0 ≤ lw ∧ (K = 5 ∨ K = 6) ∧ lw ≤ ln π (fl σ 210 s) + 1000000 * (if ops = [] then 1 else 0) := by
  rcases h with ⟨rfl, h1, h2, h3, h4, h5, h6, h7⟩ | ⟨rfl, rfl, h⟩
  · refine ⟨h1, h6, h7, Or.inr rfl, ?_⟩
    by_cases e : ops = []
    · rcases h2 with q | q
      · rw [if_pos e]; have := h1.2.2.2.2.2.1; omega
      · exact absurd e q.1
    · rw [if_neg e, h4 e]; omega
  · exact ⟨h.1, h.2.2.2, Int.le_refl _, Or.inl rfl, by have := h.1.2.2.2.2.2.1; split <;> omega⟩
theorem RQr.cg {K n0 s place lw : Int} {π π' : Sh} {σ σ' : St} {ops : List Kid} (h : RQr K π σ n0 s place ops lw) (he : ext π π') (hf : ∀ f : Nat, 200 ≤ f → f ≤ 213 → fl σ' f s = fl σ f s) (ha : ∀ a j : Int, ob π a 22 → el σ' a j = el σ a j) : RQr K π' σ' n0 s place ops lw := by
  rcases h with ⟨e, h⟩ | ⟨e, e2, h⟩
  · exact Or.inl ⟨e, h.cg he hf ha⟩
  · exact Or.inr ⟨e, e2, h.cg he hf ha⟩
theorem RQr.give {K n0 s place lw o D P : Int} {π : Sh} {σ τ : St} {ops : List Kid} {L : List Stq} {Kn : List Int} (h : RQr K π σ n0 s place ops lw) (hb : BDy (XR Xo σ s) π σ τ D P L Kn) (hn : n0 ≤ nn π) (h56 : 56 ≤ nn π) (hl : ops.length ≤ 3000) : ∃ π' σ' lw', GVr N K π σ s o π' σ' ∧ ob π s 10 ∧ FRn n0 π σ π' σ' ∧ RQr K π' σ' n0 s place (ops ++ [(o, 1, 1)]) lw' ∧ BDy (XR Xo σ' s) π' σ' τ D P L Kn ∧ nn π' ≤ nn π + 4 ∧ ((sw π' : Int) + 2 * ln π (fl σ 210 s) + 6 * lw ≤ sw π + 2 * ln π' (fl σ' 210 s) + 6 * lw') ∧ (∀ (f : Nat) (i : Int), i ≠ s → fl σ' f i = fl σ f i) := by
  rcases h with ⟨rfl, h⟩ | ⟨rfl, rfl, h⟩
  · obtain ⟨π', σ', lw', q1, q2, q3, q4, q5, q6, q7, q8⟩ := rt_give (N := N) (o := o) (x := 1) (y := 1) h hb hn h56 hl
    exact ⟨π', σ', lw', ⟨fun _ => q1, fun e => absurd e (by decide)⟩, q2, q3, Or.inl ⟨rfl, q4⟩, q5, q6, q7, q8⟩
  · obtain ⟨π', σ', q1, q2, q3, q4, q5, q6, q7, q8⟩ := ru_give (N := N) (o := o) h hb hn h56 hl
    exact ⟨π', σ', 0, ⟨fun e => absurd e (by decide), fun _ => q1⟩, q2, q3, Or.inr ⟨rfl, rfl, q4⟩, q5, by omega, by omega, q8⟩
theorem RQr.add {K n0 s place a lw D P : Int} {π : Sh} {σ τ : St} {ops : List Kid} {L : List Stq} {Kn : List Int} (hr : RQr K π σ n0 s place ops lw) (hb : BDy (XR Xo σ s) π σ τ D P L Kn) (hne : ops ≠ []) (hl : ops.length ≤ 2000) (hX : ∀ x, Xo x → x < n0) (hL : L.length ≤ 20000) (h56 : 56 ≤ nn π) : ∃ π' σ', Df_add N π σ D s = some (π', σ', P + L.length) ∧ ob π D 1 ∧ FLs (fl σ 23 D) π σ π' σ' ∧ BDy Xo π' σ' τ D P (L ++ [(K, place, a, 0, 0, 0, 1, ops)]) Kn ∧ nn π' ≤ nn π + 1 ∧ (sw π' : Int) + 4 * cpc π σ (fl σ 23 D) ≤ sw π + 4 * cpc π' σ' (fl σ 23 D) := by
  rcases hr with ⟨rfl, h⟩ | ⟨rfl, rfl, h⟩
  · exact rt_add (K := 6) (b := 0) (lw := lw) hb h (by omega) hne hl hX hL h56 (fun e => absurd e (by decide))
  · exact ru_add hb h hl hX hL h56
/-- a row is begun -/
theorem RQr.new {K kd place D P : Int} {π : Sh} {σ τ : St} {L : List Stq} {Kn : List Int} (hS : SHs π) (bd : BDy Xo π σ τ D P L Kn) (hK : (K = 6 ∧ kd = 5) ∨ (K = 5 ∧ kd = 8)) : ∃ π' σ', Sp_init N (nO π 10 14) (zO σ (nn π) dfl) (nn π) kd place = some (π', σ') ∧ ob π' (nn π) 10 ∧ ob (nO π 10 14) (nn π) 10 ∧ BDy (XR Xo (sf σ' 206 (nn π) 1) (nn π)) π' (sf σ' 206 (nn π) 1) τ D P L Kn ∧ RQr K π' (sf σ' 206 (nn π) 1) (nn π) (nn π) place [] 0 ∧ FRn (nn π) π σ π' (sf σ' 206 (nn π) 1) ∧ nn π' = nn π + 2 ∧ sw π' = sw π + 16 ∧ ln π' (fl (sf σ' 206 (nn π) 1) 210 (nn π)) = 2 := by
  obtain ⟨π', σ', s1, s2, s3, s4, s5, s6, s7, s8⟩ := c_spInit (N := N) (π := π) (σ := σ) (kd := kd) (place := place)
  have n56 := hS.1
  have ef : ∀ (f : Nat) (i : Int), f ≠ 206 → fl (sf σ' 206 (nn π) 1) f i = fl σ' f i := fun f i hf => fl_sfn _ _ _ _ hf
  have s2' : FRn (nn π) π σ π' (sf σ' 206 (nn π) 1) := ⟨s2.1, fun f i hi => by rw [fl_sf, if_neg (by omega)]; exact s2.2.1 f i hi, fun a j ha => s2.2.2 a j ha⟩
  have s6' : OPs π' (sf σ' 206 (nn π) 1) (nn π) (nn π) [] := s6.cg (ext.rf _) (fun f hf => ef f _ (by omega)) (fun _ => rfl)
  have s7' : fl (sf σ' 206 (nn π) 1) 211 (nn π) = -1 ∧ fl (sf σ' 206 (nn π) 1) 212 (nn π) = -1 ∧ fl (sf σ' 206 (nn π) 1) 213 (nn π) = -1 := by
    rw [ef 211 _ (by decide), ef 212 _ (by decide), ef 213 _ (by decide)]; exact s7
  refine ⟨π', σ', s1, s6.1, ob_nO π 10 14, ?_, ?_, s2', s3, s4, by rw [ef 210 _ (by decide)]; exact s8⟩
  · refine bd.own s2'.1 (fun f i hi _ => s2'.2.1 f i hi) (fun a j ha _ => s2'.2.2 a j ha) (fun x hx => ?_) (by omega)
    rcases hx with q | q | ⟨q56, q⟩
    · have := bd.2.2.2.2.2.2.2.1 x q
      exact ⟨Or.inl q, this.1, by omega⟩
    · exact ⟨Or.inr (by omega), by omega, by omega⟩
    · rw [s7'.1, s7'.2.1, s7'.2.2] at q
      have q1 : x = fl (sf σ' 206 (nn π) 1) 210 (nn π) := by omega
      have := s6'.2.2.2.1.2.1
      have := s6'.2.2.2.2.1
      exact ⟨Or.inr (by omega), q56, by omega⟩
  · have g : fl (sf σ' 206 (nn π) 1) 200 (nn π) = kd ∧ fl (sf σ' 206 (nn π) 1) 201 (nn π) = place ∧ fl (sf σ' 206 (nn π) 1) 202 (nn π) = 0 ∧ fl (sf σ' 206 (nn π) 1) 203 (nn π) = 0 ∧ fl (sf σ' 206 (nn π) 1) 206 (nn π) = 1 := by
      rw [ef 200 _ (by decide), ef 201 _ (by decide), ef 202 _ (by decide), ef 203 _ (by decide), fl_sfs]
      exact ⟨s5.1, s5.2.1, s5.2.2.1, s5.2.2.2.1, rfl⟩
    rcases hK with ⟨rfl, rfl⟩ | ⟨rfl, rfl⟩
    · exact Or.inl ⟨rfl, s6', Or.inl ⟨rfl, rfl, s7'⟩, g.2.2.1, fun h => absurd rfl h, ⟨g.1, g.2.1, g.2.2.2.1, g.2.2.2.2⟩, by omega, Int.le_refl _⟩
    · exact Or.inr ⟨rfl, rfl, s6', s7', ⟨g.1, g.2.1, g.2.2.2.2⟩, by omega⟩
end RQ1
