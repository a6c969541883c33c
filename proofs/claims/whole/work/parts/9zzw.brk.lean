/-! a bracket of a text: the row in the making -/
section BR
variable {N : Nat} {Xo : Int → Prop}
def RWp (π : Sh) (σ : St) (n0 s place : Int) (ops : List Kid) : Prop := OPs π σ n0 s ops ∧ (fl σ 211 s = -1 ∧ fl σ 212 s = -1 ∧ fl σ 213 s = -1) ∧ (fl σ 200 s = 8 ∧ fl σ 201 s = place ∧ fl σ 206 s = 0) ∧ 56 ≤ n0
theorem RWp.cg {π π' : Sh} {σ σ' : St} {n0 s place : Int} {ops : List Kid} (h : RWp π σ n0 s place ops) (he : ext π π') (hf : ∀ f : Nat, 200 ≤ f → f ≤ 213 → fl σ' f s = fl σ f s) (ha : ∀ a j : Int, ob π a 22 → el σ' a j = el σ a j) : RWp π' σ' n0 s place ops := by
  obtain ⟨h1, h2, h3, h4⟩ := h
  refine ⟨h1.cg he (fun f hx => hf f (by omega) (by omega)) (fun j => ha _ j h1.2.2.2.1), ?_, ?_, h4⟩
  · rw [hf 211 (by omega) (by omega), hf 212 (by omega) (by omega), hf 213 (by omega) (by omega)]; exact h2
  · rw [hf 200 (by omega) (by omega), hf 201 (by omega) (by omega), hf 206 (by omega) (by omega)]; exact h3
theorem RWp.ft {X : Int → Prop} {π π' : Sh} {σ σ' τ : St} {n0 s place D P : Int} {L : List Stq} {Kn : List Int} {ops : List Kid} (h : RWp π σ n0 s place ops) (hb : BDy X π σ τ D P L Kn) (hx : XFt (fl σ 23 D) π σ π' σ') : RWp π' σ' n0 s place ops ∧ ∀ f : Nat, fl σ' f s = fl σ f s := by
  have s1 := h.1.1
  have s2 := h.1.2.1
  have n6 := h.2.2.2
  have ne : fl σ 23 D ≠ s := fun e => by
    have t := hb.2.1.1.1.2.2
    rw [e, s1.2.2] at t
    exact absurd t (by decide)
  have hf : ∀ f : Nat, fl σ' f s = fl σ f s := fun f => hx.2.1 f s s1.2.1 (by omega) (by omega) (by omega)
  refine ⟨h.cg hx.1 (fun f _ _ => hf f) (fun a j ho => hx.2.2.1 a j ho.2.1 (fun e => ?_)), hf⟩
  rcases hb.2.1.ar with q | q
  · rw [← e] at q; have := ho.1; omega
  · rw [← e] at q
    have t := q.2.2
    rw [ho.2.2] at t
    exact absurd t (by decide)
/-- a part is given to it -/
theorem rp_give {π : Sh} {σ τ : St} {n0 s place o D P : Int} {ops : List Kid} {L : List Stq} {Kn : List Int} (h : RWp π σ n0 s place ops) (hb : BDy (XR Xo σ s) π σ τ D P L Kn) (hn : n0 ≤ nn π) (h56 : 56 ≤ nn π) (hl : ops.length ≤ 3000) : ∃ π' σ', Sp_give N π σ s o = some (π', σ', s) ∧ ob π s 10 ∧ FRn n0 π σ π' σ' ∧ RWp π' σ' n0 s place (ops ++ [(o, 1, 1)]) ∧ BDy (XR Xo σ' s) π' σ' τ D P L Kn ∧ nn π' ≤ nn π + 1 ∧ ((sw π' : Int) + 2 * ln π (fl σ 210 s) ≤ sw π + 2 * ln π' (fl σ' 210 s)) ∧ (∀ (f : Nat) (i : Int), i ≠ s → fl σ' f i = fl σ f i) := by
  obtain ⟨h1, h2, h3, h6⟩ := h
  obtain ⟨π', σ', g1, g2, g3, g4, g5, g6, g7, g8⟩ := c_give (N := N) (o := o) h1 hn hl (1, 1)
  have sn := h1.2.1
  have sl := h1.1.2.1
  have nge := g2.1.1
  have k : ∀ f : Nat, f ≠ 209 → f ≠ 210 → fl σ' f s = fl σ f s := fun f a b => g6 f s (by omega)
  refine ⟨π', σ', g1, h1.1, g2, ⟨g5, by rw [k 211 (by omega) (by omega), k 212 (by omega) (by omega), k 213 (by omega) (by omega)]; exact h2, by rw [k 200 (by omega) (by omega), k 201 (by omega) (by omega), k 206 (by omega) (by omega)]; exact h3, h6⟩, ?_, g3, g4.1, fun f i hi => g6 f i (by omega)⟩
  refine hb.own g2.1 (fun f i hi hx => g6 f i (fun e => hx (Or.inr (Or.inl e.1)))) (fun a j ha hx => ?_) (fun z hz => ?_) h56
  · by_cases c : 56 ≤ a
    · exact g7 a j ha (fun e => hx (Or.inr (Or.inr ⟨c, Or.inl e⟩)))
    · exact g2.2.2 a j (by omega)
  · have hb11 := hb.2.2.2.2.2.2.2.1
    rcases hz with q | q | ⟨q56, q⟩
    · have := hb11 z (Or.inl q)
      exact ⟨Or.inl (Or.inl q), this.1, by omega⟩
    · exact ⟨Or.inl (Or.inr (Or.inl q)), by omega, by omega⟩
    · rw [k 211 (by omega) (by omega), k 212 (by omega) (by omega), k 213 (by omega) (by omega), h2.1, h2.2.1, h2.2.2] at q
      have q1 : z = fl σ' 210 s := by omega
      have up := g5.2.2.2.1.2.1
      refine ⟨?_, q56, by omega⟩
      rcases g8 with e | e
      · exact Or.inl (Or.inr (Or.inr ⟨q56, Or.inl (by rw [q1, e])⟩))
      · exact Or.inr (by omega)
/-- it is added to the body -/
theorem row_add5 {π : Sh} {σ τ : St} {n0 s place a D P : Int} {ops : List Kid} {L : List Stq} {Kn : List Int} (hb : BDy (XR Xo σ s) π σ τ D P L Kn) (hr : RWp π σ n0 s place ops) (hl : ops.length ≤ 2000) (hX : ∀ x, Xo x → x < n0) (hL : L.length ≤ 20000) (h56 : 56 ≤ nn π) : ∃ π' σ', Df_add N π σ D s = some (π', σ', P + L.length) ∧ ob π D 1 ∧ FLs (fl σ 23 D) π σ π' σ' ∧ BDy Xo π' σ' τ D P (L ++ [(5, place, a, 0, 0, 0, 0, ops)]) Kn ∧ nn π' ≤ nn π + 1 ∧ (sw π' : Int) + 4 * cpc π σ (fl σ 23 D) ≤ sw π + 4 * cpc π' σ' (fl σ 23 D) := by
  obtain ⟨h1, h2, h3, h6⟩ := hr
  obtain ⟨o1, o2, o3, o4, o5, o6, o7, o8⟩ := h1
  have bd : BDy Xo π σ τ D P L Kn := hb.un h56
  have sq : SQ π σ s (5, place, a, 0, 0, 0, 0, ops) := by
    refine Or.inr ⟨(by decide : (5 : Int) ≠ 99), o1, ⟨h3.1, fun e => absurd e (show ¬ (5 : Int) = 1 by decide), fun _ _ e => absurd rfl e, fun e => absurd e (show ¬ (7 : Int) ≤ 5 by decide), fun e => absurd e (show ¬ ((5 : Int) = 8 ∨ (5 : Int) = 16 ∨ (5 : Int) = 20) by decide), fun e => absurd e (show ¬ ((5 : Int) = 16 ∨ (5 : Int) = 20) by decide), fun e => absurd e (show ¬ ((5 : Int) = 4 ∨ (5 : Int) = 6 ∨ (5 : Int) = 7) by decide), fun _ => by rw [h2.2.1]; decide⟩, h3.2.1, ⟨h3.2.2, Or.inl rfl⟩, o3, hl, o4, o6, by omega, by omega, o8⟩
  have ow : own Xo π σ s := by
    refine ⟨fun q => by have := hX _ q; omega, fun f f1 f2 => ?_⟩
    have nx : ∀ x, x < 0 → ¬ Xo x := fun x hx q => by have := bd.2.2.2.2.2.2.2.1 x q; omega
    rcases (show f = 210 ∨ f = 211 ∨ f = 212 ∨ f = 213 by omega) with rfl | rfl | rfl | rfl
    · exact ⟨o4.2.1, fun q => by have := hX _ q; omega⟩
    · rw [h2.1]; exact ⟨by omega, nx _ (by decide)⟩
    · rw [h2.2.1]; exact ⟨by omega, nx _ (by decide)⟩
    · rw [h2.2.2]; exact ⟨by omega, nx _ (by decide)⟩
  obtain ⟨π', σ', q1, q2, q3, q4, q5, q6, q7⟩ := c_dfAdd (N := N) h56 bd hL sq ow
  rw [q6] at q5
  exact ⟨π', σ', q1, bd.1.1, q2, q3, q4, q5⟩
theorem RK.n92 {τ : St} {lo hi P j r v : Int} {l : List Kdr} (h : RK N τ lo hi P j r l) (h0 : 0 ≤ lo ∧ r < lo ∧ hi ≤ 32768) : RK N (se τ 92 r v) lo hi P j r l := by
  obtain ⟨h1, h2, h3, h4⟩ := h
  have e : ∀ a i : Int, ¬ (a = 92 ∧ i = r) → el (se τ 92 r v) a i = el τ a i := fun a i hx => by rw [el_se, if_neg hx]
  refine ⟨h1.cg ⟨h0.1, Int.le_refl _, Int.le_refl _, h0.2.2⟩ (fun x _ a i _ _ q _ _ _ => e a i (by omega)), ?_, h3, ?_⟩
  · rw [e 87 r (by omega)]
    exact h2.cg (fun a i _ _ q _ => e a i (by omega))
  · rw [e 86 r (by omega)]; exact h4
/-- the class, behind a fault in a bracket -/
theorem bk_fault {π : Sh} {σ τ : St} {D P st cl n0 s place o x3 : Int} {L : List Stq} {Kn : List Int} {ops : List Kid} {rP : Sh → St → Option (Sh × St × Int)} {n : Nat} (hN : 3000 ≤ N) (h : XC (XR Xo σ s) π σ τ D P L Kn st cl) (hf : FLT σ τ) (hr : RWp π σ n0 s place ops) (hn : n0 ≤ nn π) (hl : ops.length ≤ 3000) (hx : 0 ≤ x3 ∧ x3 ≤ 5000) : ∃ π' σ', Tx_bracket_54 N rP (Tx_bracket_18 N rP (n + 1)) π σ s x3 o s = some (π', σ', 0) ∧ FLT σ' τ ∧ XC Xo π' σ' τ D P L Kn st cl ∧ ext π π' ∧ (∀ (f : Nat) (i : Int), i < n0 → ¬ (i = 50 ∧ 222 ≤ f ∧ f ≤ 225) → ¬ (i = 1 ∧ 182 ≤ f ∧ f ≤ 184) → fl σ' f i = fl σ f i) ∧ (∀ a j : Int, a < n0 → el σ' a j = el σ a j) ∧ nn π' ≤ nn π + 1 ∧ ((sw π' : Int) + 2 * ln π (fl σ 210 s) ≤ sw π + 4 * ops.length + 8) ∧ (∀ (f : Nat) (i : Int), i ≠ s → i ≠ 50 → i ≠ 1 → fl σ' f i = fl σ f i) := by
  obtain ⟨x1, x2, x7, x8⟩ := id h
  have n56 := x1.1
  have hn6 := hr.2.2.2
  obtain ⟨π1, σ1, g1, g2, g3, g4, g5, g6, g7, g8⟩ := rp_give (N := N) (o := o) hr x8 hn (by omega) hl
  have xc1 := h.gw g3 hn6 g5
  have s56 : 56 ≤ s := by have := hr.1.2.1; omega
  have e182 : fl σ1 182 1 = fl τ 11 0 := by rw [g3.2.1 182 1 (by omega)]; exact hf.1
  have e183 : fl σ1 183 1 = fl τ 12 0 := by rw [g3.2.1 183 1 (by omega)]; exact hf.2.1
  have i1 : i32 (fl σ1 182 1) ∧ fl σ1 182 1 ≠ 0 := by rw [e182]; have := hf.2.2; exact ⟨⟨by omega, by omega⟩, by omega⟩
  obtain ⟨σ2, y1, y2, y3, y4, y5⟩ := x_tak_any (N := N) (π := π1) (s := 93) hN xc1.2.1 i1.1 (by decide) i1.2
  have xc2 := ((xc1.un).xf y2 (RDr.rf 0 0 τ) y3).op (fl σ2 184 1 - 1)
  have f5 : ∀ (f : Nat) (i : Int), ¬ (f = 184 ∧ i = 1) → fl (sf σ2 184 1 (fl σ2 184 1 - 1)) f i = fl σ2 f i := fun f i hx => by rw [fl_sf, if_neg hx]
  have e79 : Tx_bracket_79 N rP π1 σ1 s = some (π1, sf σ2 184 1 (fl σ2 184 1 - 1), 0) := by
    rw [Tx_bracket_79, y1, Option.bind_some, grd_t (by rw [y4]; exact i1.1), if_neg (by rw [y4]; exact i1.2)]
  have e18 : ∀ x2 : Int, x2 = 0 ∨ x2 = 1 → Tx_bracket_18 N rP (n + 1) π1 σ1 s x2 (x3 + 1) = some (π1, sf σ2 184 1 (fl σ2 184 1 - 1), 0) := fun x2 hx2 => by
    rw [Tx_bracket_18, grd_t (by exact ⟨by omega, by omega⟩)]
    by_cases c : x3 + 1 < 2000
    · rw [if_pos c]
      rcases hx2 with rfl | rfl
      · rw [grd_t (by decide), if_pos rfl, e79]
      · rw [grd_t (by decide), if_neg (by decide), grd_t i1.1, if_neg i1.2, e79]
    · rw [if_neg c, e79]
  have bb := bA_rg xc1.2.1.1 (fl σ1 222 50)
  have o7 := g4.1.2.2.2.2.2.2.1
  have lo : ((ops ++ [(o, ((1 : Int), (1 : Int)))]).length : Int) = ops.length + 1 := by rw [List.length_append]; simp
  refine ⟨π1, sf σ2 184 1 (fl σ2 184 1 - 1), ?_, ⟨by rw [f5 182 1 (by omega), y4]; exact e182, by rw [f5 183 1 (by omega), y5]; exact e183, hf.2.2⟩, xc2, g3.1, fun f i a b c => by rw [f5 f i (by omega), y2.1 f i (by omega) (by omega)]; exact g3.2.1 f i a, fun a j ha => by show el σ2 a j = _; rw [y2.2]; exact g3.2.2 a j ha, g6, by omega, fun f i a b c => by rw [f5 f i (by omega), y2.1 f i (by omega) (by omega)]; exact g8 f i a⟩
  rw [Tx_bracket_54, g1, Option.bind_some, grd_t g2, Tx_bracket_57, c_here xc1.2.1, Option.bind_some]
  simp only
  rw [grd_t (by exact ⟨by omega, by omega⟩)]
  by_cases c : bA τ (fl σ1 222 50) = 44
  · rw [if_pos c, Tx_bracket_72, e18 1 (Or.inr rfl)]
  · rw [if_neg c, Tx_bracket_72, e18 0 (Or.inl rfl)]
end BR
