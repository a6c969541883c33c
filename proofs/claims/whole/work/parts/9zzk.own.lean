/-! a row in the making: the class's cells -/
theorem SQ.cg {π π' : Sh} {σ σ' : St} {s : Int} {x : Stq} (he : ext π π') (hf : ∀ f : Nat, fl σ' f s = fl σ f s) (ha : ∀ (f : Nat) (j : Int), 210 ≤ f → f ≤ 213 → el σ' (fl σ f s) j = el σ (fl σ f s) j) (h : SQ π σ s x) : SQ π' σ' s x := by
  rcases h with ⟨h1, h2⟩ | ⟨h1, h2⟩
  · refine Or.inl ⟨h1, ?_⟩
    obtain ⟨s1, s2, s3, s4, s4', s5, s6, s7, s8, s9, s10, s11⟩ := h2
    unfold USq
    rw [hf, hf, hf, hf, hf, (he.2.2 _ s7.2.1).2]
    exact ⟨s1.ext he, s2, s3, s4, s4'.ext he, s5, s6, s7.ext he, s8, s9, s10, s11.mono (fun i k _ _ _ hk => by rw [ha 210 _ (by omega) (by omega)]; exact hk)⟩
  · refine Or.inr ⟨h1, ?_⟩
    obtain ⟨s1, s2, s3, s4, s5, s6, s7, s8, s9, s10, s11⟩ := h2
    unfold SRq
    rw [hf, hf, hf, hf, (he.2.2 _ s7.2.1).2]
    refine ⟨s1.ext he, ?_, s3, s4, s5, s6, s7.ext he, s8, s9, s10, s11.mono (fun i k _ _ _ hk => by rw [ha 210 _ (by omega) (by omega)]; exact hk)⟩
    obtain ⟨x1, x2, x3, x4, x5, x6, x7, x8⟩ := s2
    unfold CKx
    rw [hf, hf, hf, hf, hf, hf, hf]
    refine ⟨x1, x2, x3, x4, x5, x6, fun hc => ?_, x8⟩
    obtain ⟨⟨a1, a2, a3⟩, ⟨b1, b2, b3, b4⟩, ⟨c1, c2, c3⟩, d, e⟩ := x7 hc
    unfold WAx
    rw [hf, hf, hf, (he.2.2 _ a1.2.1).2, (he.2.2 _ b1.2.1).2, (he.2.2 _ c1.2.1).2]
    refine ⟨⟨a1.ext he, a2, a3⟩, ⟨b1.ext he, b2, b3, b4⟩, ⟨c1.ext he, c2, c3⟩, d.mono (fun i k _ _ _ hk => ?_), fun i i0 i1 => ?_⟩
    · rw [ha 211 _ (by omega) (by omega), ha 212 _ (by omega) (by omega)]; exact hk
    · rw [ha 213 _ (by omega) (by omega)]; exact e i i0 i1
/-- only such cells changed, or new ones came -/
theorem BDy.own {Xo X' : Int → Prop} {π π' : Sh} {σ σ' τ : St} {D P : Int} {L : List Stq} {Kn : List Int} (h : BDy Xo π σ τ D P L Kn) (he : ext π π') (hf : ∀ (f : Nat) (i : Int), i < nn π → ¬ Xo i → fl σ' f i = fl σ f i) (hel : ∀ a j : Int, a < nn π → ¬ Xo a → el σ' a j = el σ a j) (hX : ∀ x, X' x → (Xo x ∨ nn π ≤ x) ∧ 56 ≤ x ∧ x < nn π') (h56 : 56 ≤ nn π) : BDy X' π' σ' τ D P L Kn := by
  obtain ⟨d1, d2, d3, d4, d5⟩ := h.b
  obtain ⟨⟨b1, b2, b3, b4⟩, b5, b6, b7, b8, b9, b10, b11, ⟨b12, b12', b12''⟩, b13, b14⟩ := h
  have nge := he.1
  have k22 := hf 22 D d1.2 b12
  have k23 := hf 23 D d1.2 b12
  have k24 := hf 24 D d1.2 b12
  have n42 : ∀ i : Int, i < 56 → ¬ Xo i := fun i hi hx => by have := b11 i hx; omega
  have e42 := hf 1 42 (by omega) (n42 42 (by decide))
  have e43 := hf 1 43 (by omega) (n42 43 (by decide))
  have nx : ∀ x : Int, x < nn π → ¬ Xo x → ¬ X' x := fun x h1 h2 h3 => by rcases (hX x h3).1 with q | q; exact h2 q; omega
  have p1 := hf 1 (fl σ 23 D) d2.2 b12'
  have p2 := hf 2 (fl σ 23 D) d2.2 b12'
  have q1 := hf 1 (fl σ 24 D) d3.2 b12''
  have q2 := hf 2 (fl σ 24 D) d3.2 b12''
  unfold BDy
  rw [k22, k23, k24, p1, q1, e42, e43]
  refine ⟨⟨b1.ext he, b2, b3, b4⟩, b5.keep he ⟨p1, p2⟩ (fun _ j => hel _ j d4 b13) ⟨e42, e43⟩ (fun r e _ hr => ?_), b6.keep he ⟨q1, q2⟩ (fun _ j => hel _ j d5 b14) ⟨e42, e43⟩ (fun r e _ hr => ?_), b7, b8, ⟨by omega, by omega⟩, b10, fun x hx => (hX x hx).2, ⟨nx _ d1.2 b12, nx _ d2.2 b12', nx _ d3.2 b12''⟩, nx _ d4 b13, nx _ d5 b14⟩
  · obtain ⟨r1, r2, r3⟩ := hr
    have rl := r1.ob'.2.1
    refine ⟨r1.cg he (fun f => hf f r rl r2) (fun f j f1 f2 => hel _ j (r3 f f1 f2).1 (r3 f f1 f2).2), nx _ rl r2, fun f f1 f2 => ?_⟩
    rw [hf f r rl r2]
    have := r3 f f1 f2
    exact ⟨by omega, nx _ this.1 this.2⟩
  · obtain ⟨r1, π1, σ1, τ1, r2, r3, r4, r5⟩ := hr
    have ng := r3.1.1
    have n1 : ∀ x : Int, x < nn π1 → ¬ Xo x := fun x hx hxo => by have := r5 x hxo; omega
    refine ⟨r1.ext he, π1, σ1, τ1, r2, ⟨r3.1.tr he, fun f i f1 f2 hi => ?_, fun a j ha hn ht => ?_⟩, r4, fun x hx => ?_⟩
    · rw [hf f i (by omega) (n1 i hi)]; exact r3.2.1 f i f1 f2 hi
    · rw [hel a j (by omega) (n1 a hn)]; exact r3.2.2 a j ha hn ht
    · rcases (hX x hx).1 with q | q
      · exact r5 x q
      · omega
/-- the cells of a row in the making -/
def XR (Xo : Int → Prop) (σ : St) (s : Int) : Int → Prop := fun x => Xo x ∨ x = s ∨ (56 ≤ x ∧ (x = fl σ 210 s ∨ x = fl σ 211 s ∨ x = fl σ 212 s ∨ x = fl σ 213 s))
theorem XR.eq {Xo : Int → Prop} {σ σ' : St} {s : Int} (h : ∀ f : Nat, 210 ≤ f → f ≤ 213 → fl σ' f s = fl σ f s) : XR Xo σ' s = XR Xo σ s := by
  unfold XR
  rw [h 210 (by omega) (by omega), h 211 (by omega) (by omega), h 212 (by omega) (by omega), h 213 (by omega) (by omega)]
/-- such a row -/
def RWs (π : Sh) (σ : St) (n0 s kd place b : Int) (ops : List Kid) (lw : Int) : Prop := OPs π σ n0 s ops ∧ WTs π σ n0 s ops lw ∧ fl σ 202 s = wS ops ∧ (ops ≠ [] → lw = ln π (fl σ 210 s)) ∧ (fl σ 200 s = kd ∧ fl σ 201 s = place ∧ fl σ 203 s = b ∧ fl σ 206 s = 0) ∧ 56 ≤ n0 ∧ 0 ≤ lw
theorem OPs.cg {π π' : Sh} {σ σ' : St} {n0 s : Int} {ops : List Kid} (h : OPs π σ n0 s ops) (he : ext π π') (hf : ∀ f : Nat, f = 209 ∨ f = 210 → fl σ' f s = fl σ f s) (ha : ∀ j : Int, el σ' (fl σ 210 s) j = el σ (fl σ 210 s) j) : OPs π' σ' n0 s ops := by
  obtain ⟨h1, h2, h3, h4, h5, h6, h7, h8⟩ := h
  unfold OPs
  rw [hf 209 (by omega), hf 210 (by omega), (he.2.2 _ h4.2.1).2]
  exact ⟨h1.ext he, h2, h3, h4.ext he, h5, h6, h7, h8.mono (fun i k _ _ _ hk => by rw [ha]; exact hk)⟩
theorem WTs.cg {π π' : Sh} {σ σ' : St} {n0 s lw : Int} {ops : List Kid} (h : WTs π σ n0 s ops lw) (he : ext π π') (hf : ∀ f : Nat, 210 ≤ f → f ≤ 213 → fl σ' f s = fl σ f s) (ha : ∀ (f : Nat) (j : Int), 211 ≤ f → f ≤ 213 → ob π (fl σ f s) 22 → el σ' (fl σ f s) j = el σ (fl σ f s) j) : WTs π' σ' n0 s ops lw := by
  unfold WTs
  rw [hf 210 (by omega) (by omega), hf 211 (by omega) (by omega), hf 212 (by omega) (by omega), hf 213 (by omega) (by omega)]
  rcases h with h | ⟨w1, ⟨a1, a2, a3⟩, ⟨b1, b2, b3⟩, ⟨c1, c2, c3⟩, d, w6, w7, w8⟩
  · exact Or.inl h
  · refine Or.inr ⟨w1, ⟨a1.ext he, a2, ?_⟩, ⟨b1.ext he, b2, ?_⟩, ⟨c1.ext he, c2, ?_⟩, d, w6, w7.mono (fun i k _ _ _ hk => ?_), fun i i0 i1 => ?_⟩
    · rw [(he.2.2 _ a1.2.1).2]; exact a3
    · rw [(he.2.2 _ b1.2.1).2]; exact b3
    · rw [(he.2.2 _ c1.2.1).2]; exact c3
    · rw [ha 211 _ (by omega) (by omega) a1, ha 212 _ (by omega) (by omega) b1]; exact hk
    · rw [ha 213 _ (by omega) (by omega) c1]; exact w8 i i0 i1
theorem RWs.cg {π π' : Sh} {σ σ' : St} {n0 s kd place b lw : Int} {ops : List Kid} (h : RWs π σ n0 s kd place b ops lw) (he : ext π π') (hf : ∀ f : Nat, 200 ≤ f → f ≤ 213 → fl σ' f s = fl σ f s) (ha : ∀ a j : Int, ob π a 22 → el σ' a j = el σ a j) : RWs π' σ' n0 s kd place b ops lw := by
  obtain ⟨h1, h2, h3, h4, h5, h6, h7⟩ := h
  refine ⟨h1.cg he (fun f hx => hf f (by omega) (by omega)) (fun j => ha _ j h1.2.2.2.1), h2.cg he (fun f a c => hf f (by omega) (by omega)) (fun f j _ _ ho => ha _ j ho), by rw [hf 202 (by omega) (by omega)]; exact h3, fun hne => ?_, ?_, h6, h7⟩
  · rw [hf 210 (by omega) (by omega), (he.2.2 _ h1.2.2.2.1.2.1).2]; exact h4 hne
  · rw [hf 200 (by omega) (by omega), hf 201 (by omega) (by omega), hf 203 (by omega) (by omega), hf 206 (by omega) (by omega)]; exact h5
/-- while a part is read -/
theorem RWs.ft {Xo : Int → Prop} {π π' : Sh} {σ σ' τ : St} {n0 s kd place b lw D P : Int} {L : List Stq} {Kn : List Int} {ops : List Kid} (h : RWs π σ n0 s kd place b ops lw) (hb : BDy Xo π σ τ D P L Kn) (hx : XFt (fl σ 23 D) π σ π' σ') : RWs π' σ' n0 s kd place b ops lw ∧ ∀ f : Nat, fl σ' f s = fl σ f s := by
  have s1 := h.1.1
  have s2 := h.1.2.1
  have n6 := h.2.2.2.2.2.1
  have ne : fl σ 23 D ≠ s := fun e => by
    have t := hb.2.1.1.1.2.2
    rw [e, s1.2.2] at t
    exact absurd t (by decide)
  have hf : ∀ f : Nat, fl σ' f s = fl σ f s := fun f => hx.2.1 f s s1.2.1 (by omega) (by omega) (by omega)
  refine ⟨h.cg hx.1 (fun f _ _ => hf f) (fun a j ho => hx.2.2.1 a j ho.2.1 (fun e => ?_)), hf⟩
  rcases hb.2.1.ar with q | q
  · rw [← e] at q; have := ho.1; omega
  · rw [← e] at q
    have t := q.2.2
    rw [ho.2.2] at t
    exact absurd t (by decide)
theorem XFt.own {x : Int} {π0 π π' : Sh} {σ0 σ σ' : St} (h : XFt x π0 σ0 π σ) (k : FRn (nn π0) π σ π' σ') (hx : fl σ' 1 x = fl σ 1 x) : XFt x π0 σ0 π' σ' := ⟨h.1.tr k.1, fun f i a b c d => (k.2.1 f i a).trans (h.2.1 f i a b c d), fun a j ha hx' => (k.2.2 a j ha).trans (h.2.2.1 a j ha hx'), by rw [hx]; exact h.2.2.2⟩
section OW
variable {N : Nat} {Xo : Int → Prop}
/-- a weighted part is given to it -/
theorem rw_give {π : Sh} {σ τ : St} {n0 s kd place b lw o x y D P : Int} {ops : List Kid} {L : List Stq} {Kn : List Int} (h : RWs π σ n0 s kd place b ops lw) (hb : BDy (XR Xo σ s) π σ τ D P L Kn) (hn : n0 ≤ nn π) (h56 : 56 ≤ nn π) (hl : ops.length ≤ 3000) : ∃ π' σ' lw', Sp_giveWeighted N π σ s o x y = some (π', σ') ∧ ob π s 10 ∧ FRn n0 π σ π' σ' ∧ RWs π' σ' n0 s kd place b (ops ++ [(o, x, y)]) lw' ∧ BDy (XR Xo σ' s) π' σ' τ D P L Kn ∧ nn π' ≤ nn π + 4 ∧ ((sw π' : Int) + 2 * ln π (fl σ 210 s) + 6 * lw ≤ sw π + 2 * ln π' (fl σ' 210 s) + 6 * lw') ∧ (∀ (f : Nat) (i : Int), i ≠ s → fl σ' f i = fl σ f i) := by
  obtain ⟨h1, h2, h3, h4, h5, h6, h7⟩ := h
  obtain ⟨π', σ', lw', g1, g2, g3, g4, g5, g6, g7, g8, g9, g10, g11⟩ := c_gw (N := N) (o := o) (x := x) (y := y) h1 h2 h3 hn hl h4
  have sn := h1.2.1
  have sl := h1.1.2.1
  have nge := g2.1.1
  refine ⟨π', σ', lw', g1, h1.1, g2, ⟨g5, g6, g7, fun _ => g8, by rw [g9 200 s (by omega), g9 201 s (by omega), g9 203 s (by omega), g9 206 s (by omega)]; exact h5, h6, ?_⟩, ?_, g3, g4, fun f i hi => g9 f i (by omega)⟩
  · have := g5.2.2.2.2.2.1; omega
  · refine hb.own g2.1 (fun f i hi hx => g9 f i (fun e => hx (Or.inr (Or.inl e.1)))) (fun a j ha hx => ?_) (fun z hz => ?_) h56
    · have q : 56 ≤ a → a ≠ fl σ 210 s ∧ a ≠ fl σ 211 s ∧ a ≠ fl σ 212 s ∧ a ≠ fl σ 213 s := fun h => ⟨fun e => hx (Or.inr (Or.inr ⟨h, Or.inl e⟩)), fun e => hx (Or.inr (Or.inr ⟨h, Or.inr (Or.inl e)⟩)), fun e => hx (Or.inr (Or.inr ⟨h, Or.inr (Or.inr (Or.inl e))⟩)), fun e => hx (Or.inr (Or.inr ⟨h, Or.inr (Or.inr (Or.inr e))⟩))⟩
      by_cases c : 56 ≤ a
      · exact g10 a j ha (q c).1 (q c).2.1 (q c).2.2.1 (q c).2.2.2
      · exact g2.2.2 a j (by omega)
    · have up : ∀ f : Nat, 210 ≤ f → f ≤ 213 → fl σ' f s < nn π' := fun f f1 f2 => by
        rcases (show f = 210 ∨ f = 211 ∨ f = 212 ∨ f = 213 by omega) with rfl | rfl | rfl | rfl
        · exact g5.2.2.2.1.2.1
        · rcases g6 with q | q
          · exact absurd q.1 (by simp)
          · exact q.2.1.1.2.1
        · rcases g6 with q | q
          · exact absurd q.1 (by simp)
          · exact q.2.2.1.1.2.1
        · rcases g6 with q | q
          · exact absurd q.1 (by simp)
          · exact q.2.2.2.1.1.2.1
      have hb11 := hb.2.2.2.2.2.2.2.1
      rcases hz with q | q | ⟨q56, q⟩
      · have := hb11 z (Or.inl q)
        exact ⟨Or.inl (Or.inl q), this.1, by omega⟩
      · exact ⟨Or.inl (Or.inr (Or.inl q)), by omega, by omega⟩
      · obtain ⟨f, f1, f2, fz⟩ : ∃ f : Nat, 210 ≤ f ∧ f ≤ 213 ∧ z = fl σ' f s := by
          rcases q with q | q | q | q
          · exact ⟨210, by omega, by omega, q⟩
          · exact ⟨211, by omega, by omega, q⟩
          · exact ⟨212, by omega, by omega, q⟩
          · exact ⟨213, by omega, by omega, q⟩
        refine ⟨?_, q56, by rw [fz]; exact up f f1 f2⟩
        rcases g11 f f1 f2 with e | e
        · refine Or.inl (Or.inr (Or.inr ⟨q56, ?_⟩))
          rw [e] at fz
          rcases (show f = 210 ∨ f = 211 ∨ f = 212 ∨ f = 213 by omega) with rfl | rfl | rfl | rfl
          · exact Or.inl fz
          · exact Or.inr (Or.inl fz)
          · exact Or.inr (Or.inr (Or.inl fz))
          · exact Or.inr (Or.inr (Or.inr fz))
        · exact Or.inr (by omega)
/-- both stand in a text: only cells from n0 on changed -/
theorem XS.gw {X' : Int → Prop} {π π' : Sh} {σ σ' τ : St} {D P st cl n0 : Int} {L : List Stq} {Kn : List Int} (h : XS Xo π σ τ D P L Kn st cl) (hf : FRn n0 π σ π' σ') (hn : 56 ≤ n0) (hb : BDy X' π' σ' τ D P L Kn) : XS X' π' σ' τ D P L Kn st cl := by
  obtain ⟨x1, x2, x3, ⟨x4, x4'⟩, x5, x6, x7, x8, x9⟩ := id h
  have f : ∀ (g : Nat) (i : Int), i < 56 → fl σ' g i = fl σ g i := fun g i hi => hf.2.1 g i (by omega)
  have b := x2.2.1
  exact ⟨x1.ext hf.1, x2.mv (RDr.rf 0 0 τ) ⟨f 181 1 (by decide), f 223 50 (by decide), fun j => hf.2.2 2 j (by omega)⟩ (by rw [f 222 50 (by decide)]; exact ⟨b.2.2.1, b.2.2.2.1⟩), by rw [f 222 50 (by decide)]; exact x3, ⟨by rw [f 182 1 (by decide)]; exact x4, x4'⟩, by rw [f 184 1 (by decide)]; exact x5, by rw [f 224 50 (by decide)]; exact x6, by rw [f 221 50 (by decide)]; exact x7, hb, x9⟩
theorem XC.gw {X' : Int → Prop} {π π' : Sh} {σ σ' τ : St} {D P st cl n0 : Int} {L : List Stq} {Kn : List Int} (h : XC Xo π σ τ D P L Kn st cl) (hf : FRn n0 π σ π' σ') (hn : 56 ≤ n0) (hb : BDy X' π' σ' τ D P L Kn) : XC X' π' σ' τ D P L Kn st cl := by
  obtain ⟨x1, x2, x7, x8⟩ := id h
  have f : ∀ (g : Nat) (i : Int), i < 56 → fl σ' g i = fl σ g i := fun g i hi => hf.2.1 g i (by omega)
  have b := x2.2.1
  exact ⟨x1.ext hf.1, x2.mv (RDr.rf 0 0 τ) ⟨f 181 1 (by decide), f 223 50 (by decide), fun j => hf.2.2 2 j (by omega)⟩ (by rw [f 222 50 (by decide)]; exact ⟨b.2.2.1, b.2.2.2.1⟩), by rw [f 221 50 (by decide)]; exact x7, hb⟩
end OW
