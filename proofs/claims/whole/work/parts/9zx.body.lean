/-! a body while it is read -/
/-- a list that nothing has touched -/
theorem LSc.keep {α : Type} {π π' : Sh} {σ σ' : St} {y : Int} {R R' : Int → α → Prop} {l : List α} (h : LSc π σ y R l) (he : ext π π') (h1 : fl σ' 1 y = fl σ 1 y ∧ fl σ' 2 y = fl σ 2 y) (h2 : 0 ≤ fl σ 1 y → ∀ j, el σ' (fl σ 1 y) j = el σ (fl σ 1 y) j) (h42 : fl σ' 1 42 = fl σ 1 42 ∧ fl σ' 1 43 = fl σ 1 43) (hR : ∀ r e, e ∈ l → R r e → R' r e) : LSc π' σ' y R' l := by
  obtain ⟨⟨a1, a2, a3, a4, a5, a6, a7⟩, hc⟩ := h
  unfold LSc LSq
  rw [h1.1, h1.2, h42.1, h42.2]
  refine ⟨⟨a1.ext he, a2, a3, fun hl => ?_, a5, a6, a7⟩, ?_⟩
  · obtain ⟨d1, d2, d3, d4, d5⟩ := a4 hl
    rw [(he.2.2 _ d1.2.1).2]
    exact ⟨d1.ext he, d2, d3, d4, d5.mono (fun i e _ _ hm hk => by rw [h2 (by omega)]; exact hR _ _ hm hk)⟩
  · rcases hc with hc | ⟨c1, c2, c3, c4, c5⟩
    · exact Or.inl hc
    · refine Or.inr ?_
      rw [(he.2.2 _ c1.2.1).2]
      exact ⟨c1.ext he, c2, c3, c4, c5⟩
/-- a step's own cells are none of those that a row in the making owns -/
def own (Xo : Int → Prop) (π : Sh) (σ : St) (r : Int) : Prop := ¬ Xo r ∧ ∀ f : Nat, 210 ≤ f → f ≤ 213 → fl σ f r < nn π ∧ ¬ Xo (fl σ f r)
theorem own.hp {Xo : Int → Prop} {π π' : Sh} {σ σ' : St} {r : Int} (h : own Xo π σ r) (hp : HP π σ π' σ') (hr : r < nn π) : own Xo π' σ' r := by
  have ng := hp.1.1
  refine ⟨h.1, fun f f1 f2 => ?_⟩
  rw [hp.fd (in2 (by omega)) hr]
  have := h.2 f f1 f2
  exact ⟨by omega, this.2⟩
/-- a known pattern, older than such cells -/
def PRX (Xo : Int → Prop) (π : Sh) (σ τ : St) (r p : Int) : Prop := ∃ π1 σ1 τ1, PRn π1 σ1 τ1 r p ∧ HP π1 σ1 π σ ∧ TX τ1 τ ∧ ∀ x, Xo x → nn π1 ≤ x
theorem PRX.pr {Xo : Int → Prop} {π : Sh} {σ τ : St} {r p : Int} (h : PRX Xo π σ τ r p) : PRn π σ τ r p := by
  obtain ⟨π1, σ1, τ1, h1, h2, h3, -⟩ := h
  exact h1.growP h2 h3
theorem PRX.mv {Xo : Int → Prop} {π π' : Sh} {σ σ' τ τ' : St} {r p : Int} (h : PRX Xo π σ τ r p) (hp : HP π σ π' σ') (ht : TX τ τ') : PRX Xo π' σ' τ' r p := by
  obtain ⟨π1, σ1, τ1, h1, h2, h3, h4⟩ := h
  exact ⟨π1, σ1, τ1, h1, h2.tr hp, h3.tr ht, h4⟩
def BDy (Xo : Int → Prop) (π : Sh) (σ τ : St) (D P : Int) (L : List Stq) (Kn : List Int) : Prop := (ob π D 1 ∧ fl σ 22 D = P ∧ 0 ≤ P ∧ P ≤ 4) ∧ LSc π σ (fl σ 23 D) (fun r e => SQ π σ r e ∧ own Xo π σ r) L ∧ LSc π σ (fl σ 24 D) (fun r p => ob π r 5 ∧ PRX Xo π σ τ r p) Kn ∧ fl σ 23 D ≠ fl σ 24 D ∧ (0 ≤ fl σ 1 (fl σ 23 D) → fl σ 1 (fl σ 23 D) ≠ fl σ 1 (fl σ 24 D)) ∧ (fl σ 1 42 < nn π ∧ fl σ 1 43 < nn π) ∧ (56 ≤ fl σ 23 D ∧ 56 ≤ fl σ 24 D ∧ 56 ≤ D) ∧ (∀ x, Xo x → 56 ≤ x ∧ x < nn π) ∧ (¬ Xo D ∧ ¬ Xo (fl σ 23 D) ∧ ¬ Xo (fl σ 24 D)) ∧ ¬ Xo (fl σ 1 (fl σ 23 D)) ∧ ¬ Xo (fl σ 1 (fl σ 24 D))
theorem LSc.ar {α : Type} {π : Sh} {σ : St} {x : Int} {R : Int → α → Prop} {l : List α} (h : LSc π σ x R l) : fl σ 1 x < 0 ∨ ob π (fl σ 1 x) 27 := by
  rcases h.2 with h | h
  · exact Or.inl h.2
  · exact Or.inr h.1
theorem LSc.lt {α : Type} {π : Sh} {σ : St} {x : Int} {R : Int → α → Prop} {l : List α} (h : LSc π σ x R l) : fl σ 1 x < nn π := by
  rcases h.ar with h | h
  · omega
  · exact h.2.1
theorem SQ.ob' {π : Sh} {σ : St} {s : Int} {x : Stq} (h : SQ π σ s x) : ob π s 10 := by
  rcases h with ⟨_, h⟩ | ⟨_, h⟩
  · exact h.1
  · exact h.1
section BD1
variable {N : Nat} {Xo : Int → Prop}
/-- a step is added to a body -/
theorem c_dfAdd {π : Sh} {σ τ : St} {D P s : Int} {L : List Stq} {Kn : List Int} {x : Stq} (hn : 56 ≤ nn π) (h : BDy Xo π σ τ D P L Kn) (hL : L.length ≤ 20000) (hs : SQ π σ s x) (ho : own Xo π σ s) : ∃ π' σ', Df_add N π σ D s = some (π', σ', P + L.length) ∧ FLs (fl σ 23 D) π σ π' σ' ∧ BDy Xo π' σ' τ D P (L ++ [x]) Kn ∧ nn π' ≤ nn π + 1 ∧ (sw π' : Int) + 4 * cpc π σ (fl σ 23 D) ≤ sw π + 4 * cpc π' σ' (fl σ' 23 D) ∧ fl σ' 23 D = fl σ 23 D ∧ fl σ' 24 D = fl σ 24 D := by
  obtain ⟨⟨b1, b2, b3, b4⟩, b5, b6, b7, b8, b9, b10, b11, b12, b13, b14⟩ := id h
  obtain ⟨π', σ', q1, q2, q3, q4, q5⟩ := c_ladd (R' := fun π' σ' r e => SQ π' σ' r e ∧ own Xo π' σ' r) (e' := x) (v := s) b5 hL b9 hn (fun π' σ' hf r e _ hr => ⟨hr.1.growP (hf.hp b5.ar), hr.2.hp (hf.hp b5.ar) hr.1.ob'.2.1⟩) (fun π' σ' hf => ⟨hs.growP (hf.hp b5.ar), ho.hp (hf.hp b5.ar) hs.ob'.2.1⟩) (fun r e _ hr => Or.inr (Or.inr hr.1.ob')) (Or.inr (Or.inr hs.ob'))
  have hp := q2.hp b5.ar
  have k23 : fl σ' 23 D = fl σ 23 D := q2.2.1 23 D b1.2.1 (by omega)
  have k24 : fl σ' 24 D = fl σ 24 D := q2.2.1 24 D b1.2.1 (by omega)
  have k22 : fl σ' 22 D = P := (q2.2.1 22 D b1.2.1 (by omega)).trans b2
  have kl := b6.1.1
  have e42 : fl σ' 1 42 = fl σ 1 42 := q2.2.1 1 42 (by omega) (by have := b5.1.2.2.2.2.1; omega)
  have e43 : fl σ' 1 43 = fl σ 1 43 := q2.2.1 1 43 (by omega) (by have := b5.1.2.2.2.2.2.1; omega)
  have kb6 : LSc π' σ' (fl σ 24 D) (fun r p => ob π' r 5 ∧ PRX Xo π' σ' τ r p) Kn := b6.keep q2.1 ⟨q2.2.1 1 _ kl.2.1 (by omega), q2.2.1 2 _ kl.2.1 (by omega)⟩ (fun h0 j => q2.2.2.1 _ _ b6.lt (fun e => by
    by_cases c : 0 ≤ fl σ 1 (fl σ 23 D)
    · exact b8 c e.symm
    · omega)) ⟨e42, e43⟩ (fun r p _ hr => ⟨hr.1.ext q2.1, hr.2.mv hp (TX.rf τ)⟩)
  have nge := q2.1.1
  refine ⟨π', σ', ?_, q2, ⟨⟨b1.ext q2.1, k22, b3, b4⟩, by rw [k23]; exact q3, by rw [k24]; exact kb6, by rw [k23, k24]; exact b7, ?_, ?_, by rw [k23, k24]; exact b10, fun x hx => by have := b11 x hx; omega, by rw [k23, k24]; exact b12, ?_, ?_⟩, q4, by rw [k23]; exact q5, k23, k24⟩
  · rw [Df_add, grd_t b1, q1, Option.bind_some, grd_t b5.1.1]
    simp only
    have sz := q3.1.2.1
    rw [Df_add_8, grd_t (b1.ext q2.1), k23, L_size, grd_t q3.1.1, Option.bind_some, grd_t q3.1.1, k22, sz, List.length_append]
    simp only [List.length_cons, List.length_nil]
    congr 3
    omega
  · rw [k23, k24]
    intro h0
    rw [q2.2.1 1 _ kl.2.1 (by omega)]
    have kx : fl σ 1 (fl σ 24 D) < nn π := b6.lt
    rcases q2.2.2.2 with e | e
    · rw [e] at h0 ⊢; exact b8 h0
    · omega
  · rw [e42, e43]; omega
  · rw [k23]
    rcases q2.2.2.2 with e | e
    · rw [e]; exact b13
    · intro hx; have := b11 _ hx; omega
  · rw [k24, q2.2.1 1 _ kl.2.1 (by omega)]; exact b14
/-- a known pattern is added -/
theorem c_dfKnown {π : Sh} {σ τ : St} {D P r p : Int} {L : List Stq} {Kn : List Int} (hn : 56 ≤ nn π) (h : BDy Xo π σ τ D P L Kn) (hL : Kn.length ≤ 20000) (hr : ob π r 5 ∧ PRX Xo π σ τ r p) : ∃ π' σ', Df_addKnown N π σ D r = some (π', σ', -((Kn.length : Int) + 1)) ∧ FLs (fl σ 24 D) π σ π' σ' ∧ BDy Xo π' σ' τ D P L (Kn ++ [p]) ∧ nn π' ≤ nn π + 1 ∧ (sw π' : Int) + 4 * cpc π σ (fl σ 24 D) ≤ sw π + 4 * cpc π' σ' (fl σ' 24 D) ∧ fl σ' 23 D = fl σ 23 D ∧ fl σ' 24 D = fl σ 24 D := by
  obtain ⟨⟨b1, b2, b3, b4⟩, b5, b6, b7, b8, b9, b10, b11, b12, b13, b14⟩ := id h
  obtain ⟨π', σ', q1, q2, q3, q4, q5⟩ := c_ladd (R' := fun π' σ' r p => ob π' r 5 ∧ PRX Xo π' σ' τ r p) (e' := p) (v := r) b6 hL b9 hn (fun π' σ' hf r e _ hr => ⟨hr.1.ext hf.1, hr.2.mv (hf.hp b6.ar) (TX.rf τ)⟩) (fun π' σ' hf => ⟨hr.1.ext hf.1, hr.2.mv (hf.hp b6.ar) (TX.rf τ)⟩) (fun r e _ hr => Or.inr (Or.inl hr.1)) (Or.inr (Or.inl hr.1))
  have hp := q2.hp b6.ar
  have k23 : fl σ' 23 D = fl σ 23 D := q2.2.1 23 D b1.2.1 (by omega)
  have k24 : fl σ' 24 D = fl σ 24 D := q2.2.1 24 D b1.2.1 (by omega)
  have k22 : fl σ' 22 D = P := (q2.2.1 22 D b1.2.1 (by omega)).trans b2
  have kl := b5.1.1
  have e42 : fl σ' 1 42 = fl σ 1 42 := q2.2.1 1 42 (by omega) (by have := b6.1.2.2.2.2.1; omega)
  have e43 : fl σ' 1 43 = fl σ 1 43 := q2.2.1 1 43 (by omega) (by have := b6.1.2.2.2.2.2.1; omega)
  have kb5 : LSc π' σ' (fl σ 23 D) (fun r e => SQ π' σ' r e ∧ own Xo π' σ' r) L := b5.keep q2.1 ⟨q2.2.1 1 _ kl.2.1 (by omega), q2.2.1 2 _ kl.2.1 (by omega)⟩ (fun h0 j => q2.2.2.1 _ _ b5.lt (b8 h0)) ⟨e42, e43⟩ (fun r p _ hr => ⟨hr.1.growP hp, hr.2.hp hp hr.1.ob'.2.1⟩)
  have nge := q2.1.1
  refine ⟨π', σ', ?_, q2, ⟨⟨b1.ext q2.1, k22, b3, b4⟩, by rw [k23]; exact kb5, by rw [k24]; exact q3, by rw [k23, k24]; exact b7, ?_, ?_, by rw [k23, k24]; exact b10, fun x hx => by have := b11 x hx; omega, by rw [k23, k24]; exact b12, ?_, ?_⟩, q4, by rw [k24]; exact q5, k23, k24⟩
  · rw [Df_addKnown, grd_t b1, q1, Option.bind_some, grd_t b6.1.1]
    simp only
    have sz := q3.1.2.1
    rw [Df_addKnown_8, grd_t (b1.ext q2.1), k24, L_size, grd_t q3.1.1, Option.bind_some, grd_t q3.1.1, sz, List.length_append]
    simp only [List.length_cons, List.length_nil]
    congr 3
  · rw [k23, k24]
    intro h0
    rw [q2.2.1 1 _ kl.2.1 (by omega)] at h0 ⊢
    have kx : fl σ 1 (fl σ 23 D) < nn π := b5.lt
    rcases q2.2.2.2 with e | e
    · rw [e]; exact b8 h0
    · omega
  · rw [e42, e43]; omega
  · rw [k23, q2.2.1 1 _ kl.2.1 (by omega)]; exact b13
  · rw [k24]
    rcases q2.2.2.2 with e | e
    · rw [e]; exact b14
    · intro hx; have := b11 _ hx; omega
end BD1
