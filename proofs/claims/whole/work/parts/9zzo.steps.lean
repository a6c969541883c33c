/-! the steps of a row of a text: what is kept from turn to turn -/
section SP
variable {N : Nat} {Xo : Int → Prop}
/-- what is known of the reading of parts with op signs open -/
def PTH (N : Nat) (D P : Int) (Kn : List Int) (st cl : Int) (rP : Sh → St → Option (Sh × St × Int)) (op : Int) : Prop := ∀ (Xo : Int → Prop) (π : Sh) (σ τ : St) (L : List Stq) (d : Int), XS Xo π σ τ D P L Kn st cl → fl τ 13 0 = op → FR12 τ d 12 0 → d ≤ 10 * op + 20 → (L.length : Int) + 2 * (cl + 1 - fl τ 2 0) + 4 * (21 - op) ≤ 19000 → fl τ 16 0 + 3 * (cl + 1 - fl τ 2 0) + 8 * (21 - op) ≤ 32768 → ∃ π' σ' τ' o k, rP π σ = some (π', σ', o) ∧ RLp N k τ τ' ∧ PTo Xo N D P L Kn st cl d π σ τ π' σ' τ' o ∧ (fl τ' 11 0 = 0 → (k : Int) + 4 ≤ 8 * (fl τ' 2 0 - fl τ 2 0)) ∧ (k : Int) ≤ 8 * (cl + 1 - fl τ 2 0) + 8 * (21 - op)
theorem XSb.gw {X' : Int → Prop} {π π' : Sh} {σ σ' τ : St} {D P st cl n0 : Int} {L : List Stq} {Kn : List Int} (h : XSb Xo π σ τ D P L Kn st cl) (hf : FRn n0 π σ π' σ') (hn : 56 ≤ n0) (hb : BDy X' π' σ' τ D P L Kn) : XSb X' π' σ' τ D P L Kn st cl := by
  obtain ⟨h1, h2, h3, h4⟩ := h
  have e : fl σ' 222 50 = fl σ 222 50 := hf.2.1 222 50 (by omega)
  unfold XSb
  rw [e]
  exact ⟨h1.gw hf hn (hb.mv (HP.rf _ _) (TX.rd ((RDr.rf 0 0 τ).sf 2 _ (by omega))) ⟨rfl, rfl, rfl⟩ (fun _ _ _ _ => rfl) (fun _ _ _ _ => rfl)), h2, h3, h4⟩
/-- the budgets -/
def SBg (x m0 at0 op : Int) (π0 : Sh) (σ0 : St) (π : Sh) (σ τ : St) (s lw : Int) (l : List Kdr) : Prop := (l.length : Int) ≤ fl τ 2 0 - at0 ∧ fl τ 16 0 ≤ m0 + 3 * (fl τ 2 0 - at0) ∧ ((sgs l).length : Int) ≤ 2 * (fl τ 2 0 - at0) ∧ (kss l : Int) ≤ 12 * (fl τ 2 0 - at0) ∧ KDb (fl τ 2 0 - at0 + 6 * (21 - op) + 1) (fl τ 2 0 - at0) l ∧ (nn π : Int) ≤ nn π0 + 2 + 12 * (fl τ 2 0 - at0) ∧ (sw π : Int) + 4 * cpc π0 σ0 x + 50 * l.length ≤ sw π0 + 4 * cpc π σ x + 16 + 100 * (fl τ 2 0 - at0) + 2 * ln π (fl σ 210 s) + 6 * lw ∧ ∀ o ∈ opz l, (1 ≤ o.2.1 ∧ o.2.1 ≤ 16) ∧ 1 ≤ o.2.2 ∧ o.2.2 ≤ 16
/-- between two steps -/
def SCo (Xo : Int → Prop) (N : Nat) (D P : Int) (L0 : List Stq) (Kn : List Int) (st cl r lo d at0 m0 kd kR place s : Int) (π0 : Sh) (σ0 τ0 : St) (π : Sh) (σ τ : St) (l : List Kdr) (lw : Int) : Prop := XS (XR Xo σ s) π σ τ D P (L0 ++ sgs l) Kn st cl ∧ RWs π σ (nn π0) s kd place 0 (opz l) lw ∧ RK N τ (r + 1) (fl τ 16 0) P L0.length r l ∧ XFt (fl σ0 23 D) π0 σ0 π σ ∧ RDr lo d τ0 τ ∧ fl τ 13 0 = fl τ0 13 0 ∧ (0 ≤ lo ∧ lo ≤ r ∧ r < m0 ∧ m0 ≤ fl τ 16 0) ∧ (el τ 94 r = kR ∧ el τ 93 r = place ∧ el τ 92 r = 0) ∧ fl σ 23 D = fl σ0 23 D ∧ SBg (fl σ0 23 D) m0 at0 (fl τ0 13 0) π0 σ0 π σ τ s lw l
/-- how the steps end -/
def STo (Xo : Int → Prop) (N : Nat) (D P : Int) (L0 : List Stq) (Kn : List Int) (st cl r lo d at0 m0 kd kR place s : Int) (π0 : Sh) (σ0 τ0 : St) (π : Sh) (σ τ : St) : Prop :=
  (FLT σ τ ∧ (∃ L', XC (XR Xo σ s) π σ τ D P L' Kn st cl ∧ (L'.length : Int) ≤ L0.length + 2 * (cl + 1 - at0)) ∧ (∃ ops lw, RWs π σ (nn π0) s kd place 0 ops lw) ∧ XFt (fl σ0 23 D) π0 σ0 π σ ∧ RDr lo d τ0 τ ∧ RmX (fl σ0 23 D) π0 σ0 π σ (12 * (cl + 1 - at0) + 20 * (21 - fl τ0 13 0) + 8) (100 * (cl + 1 - at0) + 200 * (21 - fl τ0 13 0) + 80)) ∨
  (∃ l lw, SCo Xo N D P L0 Kn st cl r lo d at0 m0 kd kR place s π0 σ0 τ0 π σ τ l lw ∧ l ≠ [] ∧ fl τ 41 0 = d ∧ fl τ 46 0 = r ∧ bA τ (fl τ 2 0) ≠ 32)
/-- only frames changed -/
theorem SCo.fr {D P st cl r lo d at0 m0 kd kR place s lw : Int} {L0 : List Stq} {Kn : List Int} {π0 π : Sh} {σ0 τ0 σ τ τ' : St} {l : List Kdr} (h : SCo Xo N D P L0 Kn st cl r lo d at0 m0 kd kR place s π0 σ0 τ0 π σ τ l lw) (hf : ∀ (f : Nat) (i : Int), f ≠ 41 → f ≠ 46 → fl τ' f i = fl τ f i) (he : ∀ a i : Int, ¬ (71 ≤ a ∧ a ≤ 74 ∧ d ≤ i) → el τ' a i = el τ a i) (h16 : fl τ 16 0 ≤ 32768) : SCo Xo N D P L0 Kn st cl r lo d at0 m0 kd kR place s π0 σ0 τ0 π σ τ' l lw := by
  obtain ⟨h1, h2, h3, h4, h5, h6, h7, h7', h8, h9⟩ := h
  have rd : RDr lo d τ τ' := ⟨fun f i _ _ c e _ => hf f i c e, fun a j x _ => he a j (by omega), fun a j x y _ => he a j (by omega), fun a j x y z => he a j (by omega)⟩
  have e2 := hf 2 0 (by decide) (by decide)
  have e16 := hf 16 0 (by decide) (by decide)
  refine ⟨h1.rd rd ⟨e2, hf 11 0 (by decide) (by decide), hf 13 0 (by decide) (by decide), hf 47 0 (by decide) (by decide), by rw [e16]; omega⟩, h2, ?_, h4, h5.tr rd (Int.le_refl _) (Int.le_refl _), by rw [hf 13 0 (by decide) (by decide)]; exact h6, by rw [e16]; exact h7, by rw [he 94 r (by omega), he 93 r (by omega), he 92 r (by omega)]; exact h7', h8, ?_⟩
  · rw [e16]; exact h3.mv ⟨by omega, by omega, h16⟩ _ ⟨Int.le_refl _, h16⟩ (fun a i x1 x2 _ => he a i (by omega))
  · unfold SBg; rw [e2, e16]; exact h9
/-- the class's end of a step, behind a fault -/
theorem steps_tail {π : Sh} {σ τ : St} {D P st cl n0 s kd place lw o w y x3 : Int} {L : List Stq} {Kn : List Int} {ops : List Kid} {rP : Sh → St → Option (Sh × St × Int)} {n : Nat} (hN : 3000 ≤ N) (h : XC (XR Xo σ s) π σ τ D P L Kn st cl) (hf : FLT σ τ) (hr : RWs π σ n0 s kd place 0 ops lw) (hn : n0 ≤ nn π) (hl : ops.length ≤ 3000) (hx : 0 ≤ x3 ∧ x3 ≤ 5000) : ∃ π1 σ1 π' σ' lw', Sp_giveWeighted N π σ s o w y = some (π1, σ1) ∧ ob π s 10 ∧ Tx_steps_73 N rP (Tx_steps_8 N rP (n + 1)) π1 σ1 s x3 = some (π', σ') ∧ FLT σ' τ ∧ XC (XR Xo σ' s) π' σ' τ D P L Kn st cl ∧ RWs π' σ' n0 s kd place 0 (ops ++ [(o, w, y)]) lw' ∧ ext π π' ∧ (∀ (f : Nat) (i : Int), i < n0 → ¬ (f = 222 ∧ i = 50) → fl σ' f i = fl σ f i) ∧ (∀ a j : Int, a < n0 → el σ' a j = el σ a j) ∧ nn π' ≤ nn π + 4 ∧ ((sw π' : Int) + 2 * ln π (fl σ 210 s) + 6 * lw ≤ sw π + 2 * ln π' (fl σ' 210 s) + 6 * lw') ∧ (∀ (f : Nat) (i : Int), i ≠ s → i ≠ 50 → fl σ' f i = fl σ f i) := by
  obtain ⟨x1, x2, x7, x8⟩ := id h
  have n56 := x1.1
  have hn6 := hr.2.2.2.2.2.1
  obtain ⟨π1, σ1, lw', g1, g2, g3, g4, g5, g6, g7, g8⟩ := rw_give (N := N) (o := o) (x := w) (y := y) hr x8 hn (by omega) hl
  have xc1 := h.gw g3 hn6 g5
  have s50 : s ≠ 50 := by have := hr.1.2.1; omega
  have e182 : fl σ1 182 1 = fl τ 11 0 := by rw [g3.2.1 182 1 (by omega)]; exact hf.1
  have e183 : fl σ1 183 1 = fl τ 12 0 := by rw [g3.2.1 183 1 (by omega)]; exact hf.2.1
  have i1 : i32 (fl σ1 182 1) ∧ fl σ1 182 1 ≠ 0 := by rw [e182]; have := hf.2.2; exact ⟨⟨by omega, by omega⟩, by omega⟩
  obtain ⟨q1, q2, q3, q4⟩ := nb_in xc1.2.1
  have b := xc1.2.1.2.1
  obtain ⟨σ', hσ'⟩ : ∃ σ', σ' = sf σ1 222 50 (nb τ cl (fl σ1 222 50)) := ⟨_, rfl⟩
  have f' : ∀ (f : Nat) (i : Int), ¬ (f = 222 ∧ i = 50) → fl σ' f i = fl σ1 f i := fun f i hx => by rw [hσ', fl_sf, if_neg hx]
  have e' : ∀ a j, el σ' a j = el σ1 a j := fun a j => by rw [hσ']; rfl
  have xf : XFc σ1 σ' := by rw [hσ']; exact (XFc.rf σ1).at _
  have xr : XR Xo σ' s = XR Xo σ1 s := XR.eq (fun f _ _ => f' f s (by omega))
  refine ⟨π1, σ1, π1, σ', lw', g1, g2, ?_, ⟨by rw [f' 182 1 (by omega)]; exact e182, by rw [f' 183 1 (by omega)]; exact e183, hf.2.2⟩, ?_, g4.cg (ext.rf _) (fun f _ _ => f' f s (by omega)) (fun a j _ => e' a j), g3.1, fun f i hi hx => by rw [f' f i hx]; exact g3.2.1 f i hi, fun a j ha => by rw [e']; exact g3.2.2 a j ha, g6, by rw [f' 210 s (by omega)]; exact g7, fun f i hi h5 => by rw [f' f i (by omega)]; exact g8 f i hi⟩
  · rw [Tx_steps_73, c_skip hN xc1.2.1, ← hσ', Option.bind_some, f' 182 1 (by omega), grd_t i1.1, if_neg i1.2, Tx_steps_119, Tx_steps_120, Tx_steps_8, grd_t (by exact ⟨by omega, by omega⟩)]
    by_cases c : x3 + 1 < 2000
    · rw [if_pos c, grd_t (by decide), if_pos rfl]
    · rw [if_neg c]
  · rw [xr]
    exact ⟨xc1.1, xc1.2.1.xf xf (XFr.rf τ) (by rw [hσ', fl_sfs]; omega) (by rw [hσ', fl_sfs]; omega), by rw [f' 221 50 (by omega)]; exact xc1.2.2.1, xc1.2.2.2.st (TX.rf τ) (fun f i y z => xf.1 f i (by omega) (by omega)) xf.2⟩
end SP
