/-! a row of a text is closed -/
section CLS
variable {N : Nat} {Xo : Int → Prop}
theorem XS.ls {X : Int → Prop} {π π' : Sh} {σ σ' τ : St} {D P st cl : Int} {L L2 : List Stq} {Kn : List Int} (h : XS X π σ τ D P L Kn st cl) (hf : FLs (fl σ 23 D) π σ π' σ') (hb : BDy Xo π' σ' τ D P L2 Kn) : XS Xo π' σ' τ D P L2 Kn st cl := by
  obtain ⟨y1, y2, y3, ⟨y4, y4'⟩, y5, y6, y7, y8, y9⟩ := id h
  have n56 := y1.1
  obtain ⟨dd1, dd2, dd3, dd4, dd5⟩ := y8.b
  have f56 : ∀ (f : Nat) (i : Int), i < 56 → fl σ' f i = fl σ f i := fun f i hi => hf.2.1 f i (by omega) (by omega)
  have ne2 : fl σ 1 (fl σ 23 D) ≠ 2 := by
    intro e
    rcases y8.2.1.2 with t | t
    · omega
    · have := t.2.1; omega
  exact ⟨y1.ext hf.1, y2.mv (RDr.rf 0 0 τ) ⟨f56 181 1 (by decide), f56 223 50 (by decide), fun j => hf.2.2.1 2 j (by omega) (fun e => ne2 e.symm)⟩ (by rw [f56 222 50 (by decide)]; exact ⟨y2.2.1.2.2.1, y2.2.1.2.2.2.1⟩), by rw [f56 222 50 (by decide)]; exact y3, ⟨by rw [f56 182 1 (by decide)]; exact y4, y4'⟩, by rw [f56 184 1 (by decide)]; exact y5, by rw [f56 224 50 (by decide)]; exact y6, by rw [f56 221 50 (by decide)]; exact y7, hb, y9⟩
/-- a sign that must stand here -/
theorem c_takeN {π : Sh} {σ τ : St} {st cl s : Int} (hN : 3000 ≤ N) (h : XB σ τ st cl) (hb : bA τ (fl σ 222 50) ≠ 32) (hf : i32 (fl σ 182 1)) (hs : 33 ≤ s ∧ s ≤ 126 ∧ s ≠ 34) : Tx_take N π σ s = some (if bA τ (fl σ 222 50) = s then sf σ 222 50 (fl σ 222 50 + 1) else flS σ 1 (fl σ 222 50)) ∧ (bA τ (fl σ 222 50) = s → fl σ 222 50 < cl) := by
  obtain ⟨q1, q2, q3, q4⟩ := nb_in h
  obtain ⟨j, hj, t1, t2⟩ := x_tak (N := N) (π := π) hN h hf hs
  have e : nb τ cl (fl σ 222 50) = fl σ 222 50 := by
    by_cases c : fl σ 222 50 < nb τ cl (fl σ 222 50)
    · exact absurd (q4 _ (Int.le_refl _) c) hb
    · omega
  rw [e] at hj
  rw [hj, sf_id (show fl σ 222 50 = fl σ 222 50 from rfl)] at t1
  rw [hj] at t2
  exact ⟨t1, t2⟩
theorem XC.op {π : Sh} {σ τ : St} {D P st cl : Int} {L : List Stq} {Kn : List Int} (h : XC Xo π σ τ D P L Kn st cl) (v : Int) : XC Xo π (sf σ 184 1 v) τ D P L Kn st cl := by
  obtain ⟨x1, x2, x7, x8⟩ := h
  have f : ∀ (g : Nat) (i : Int), ¬ (g = 184 ∧ i = 1) → fl (sf σ 184 1 v) g i = fl σ g i := fun g i hx => by rw [fl_sf, if_neg hx]
  exact ⟨x1, x2.mv (RDr.rf 0 0 τ) ⟨f 181 1 (by omega), f 223 50 (by omega), fun _ => rfl⟩ (by rw [f 222 50 (by omega)]; exact ⟨x2.2.1.2.2.1, x2.2.1.2.2.2.1⟩), by rw [f 221 50 (by omega)]; exact x7, x8.st (TX.rf τ) (fun g i y z => f g i (by omega)) (fun _ _ => rfl)⟩
theorem XC.sw {π : Sh} {σ τ : St} {D P st cl s : Int} {L : List Stq} {Kn : List Int} (h : XC (XR Xo σ s) π σ τ D P L Kn st cl) (hs : 56 ≤ s) (f : Nat) (v : Int) : XC Xo π (sf σ f s v) τ D P L Kn st cl := by
  obtain ⟨x1, x2, x7, x8⟩ := h
  have g : ∀ (g : Nat) (i : Int), i ≠ s → fl (sf σ f s v) g i = fl σ g i := fun g i hx => by rw [fl_sf, if_neg (fun h => hx h.2)]
  refine ⟨x1, x2.mv (RDr.rf 0 0 τ) ⟨g 181 1 (by omega), g 223 50 (by omega), fun _ => rfl⟩ (by rw [g 222 50 (by omega)]; exact ⟨x2.2.1.2.2.1, x2.2.1.2.2.2.1⟩), by rw [g 221 50 (by omega)]; exact x7, x8.own (ext.rf _) (fun h i _ hx => g h i (fun e => hx (Or.inr (Or.inl e)))) (fun _ _ _ _ => rfl) (fun x hx => ⟨Or.inl (Or.inl hx), x8.2.2.2.2.2.2.2.1 x (Or.inl hx)⟩) x1.1⟩
theorem RWs.b3 {π : Sh} {σ : St} {n0 s kd place b lw : Int} {ops : List Kid} (h : RWs π σ n0 s kd place b ops lw) (v : Int) : RWs π (sf σ 203 s v) n0 s kd place v ops lw := by
  obtain ⟨h1, h2, h3, h4, h5, h6, h7⟩ := h
  have g : ∀ (g : Nat) (i : Int), g ≠ 203 → fl (sf σ 203 s v) g i = fl σ g i := fun g i hx => fl_sfn _ _ _ _ hx
  refine ⟨h1.cg (ext.rf _) (fun f hf => g f s (by omega)) (fun _ => rfl), h2.cg (ext.rf _) (fun f f1 f2 => g f s (by omega)) (fun _ _ _ _ _ => rfl), by rw [g 202 s (by decide)]; exact h3, fun hne => by rw [g 210 s (by decide)]; exact h4 hne, ?_, h6, h7⟩
  rw [g 200 s (by decide), g 201 s (by decide), g 206 s (by decide), fl_sfs]
  exact ⟨h5.1, h5.2.1, rfl, h5.2.2.2⟩
set_option maxHeartbeats 2000000 in
/-- a row is done: it is added, and both have the part -/
theorem row_end {D P st cl d op at0 r K a b kd kR lw s : Int} {L : List Stq} {Kn : List Int} {π π3 : Sh} {σ τ τ2 σ3 τ3 σ4 τ5 : St} {l : List Kdr} (hN : 30000001 ≤ N) (h : XS Xo π σ τ D P L Kn st cl) (hop : fl τ 13 0 = op) (hat : fl τ 2 0 = at0) (hr : fl τ 16 0 = r) (hL : (L.length : Int) + 2 * (cl + 1 - at0) + 4 * (21 - op) ≤ 19000) (hM : r + 3 * (cl + 1 - at0) + 8 * (21 - op) ≤ 32768) (hsc : SCo Xo N D P L Kn st cl r r (d + 1) (at0 + 1) (r + 1) kd kR at0 s π σ τ2 π3 σ3 τ3 l lw) (hne : l ≠ []) (h2 : fl τ2 13 0 = op + 1) (hxs : XS (XR Xo σ4 s) π3 σ4 τ5 D P (L ++ sgs l) Kn st cl) (hrw : RWs π3 σ4 (nn π) s (kcO K) at0 b (opz l) lw) (h43 : ∀ (f : Nat) (i : Int), i ≠ s → ¬ (i = 50 ∧ 222 ≤ f ∧ f ≤ 225) → ¬ (i = 1 ∧ 182 ≤ f ∧ f ≤ 184) → fl σ4 f i = fl σ3 f i) (e43 : ∀ a j, el σ4 a j = el σ3 a j) (rd5 : RDr r d τ τ5) (h5 : fl τ5 16 0 = fl τ3 16 0 ∧ fl τ5 41 0 = d ∧ fl τ5 46 0 = r ∧ fl τ5 13 0 = op ∧ fl τ3 2 0 + 1 ≤ fl τ5 2 0) (e5 : ∀ a i : Int, 85 ≤ a → a ≤ 94 → ¬ (a = 92 ∧ i = r) → el τ5 a i = el τ3 a i) (h92 : el τ5 92 r = a) (hK : (K = 6 ∧ kR = 26) ∨ (K = 7 ∧ kR = 27 ∧ (1 ≤ a ∧ a ≤ 32) ∧ b = a)) : ∃ π4 σ', Df_add N π3 σ4 D s = some (π4, σ', P + (L ++ sgs l).length) ∧ ob π3 D 1 ∧ PTo Xo N D P L Kn st cl d π σ τ π4 σ' τ5 (P + (L ++ sgs l).length) := by
  obtain ⟨x1, x2, x3, ⟨x4, x4'⟩, x5, x6, x7, x8, x9⟩ := id h
  have n56 := x1.1
  obtain ⟨dd1, dd2, dd3, dd4, dd5⟩ := x8.b
  have wd := hsc.words hne
  obtain ⟨c1, c2, c3, c4, c5, c6, c7, c7', c8, c9⟩ := hsc
  obtain ⟨g1', g2, g3, g4, g5, g6, g7, g8⟩ := c9
  rw [h2] at g5
  obtain ⟨y1, y2, y3, ⟨y4, y4'⟩, y5, y6, y7, y8, y9⟩ := id hxs
  have ng3 := c4.1.1
  have size := y2.1.2.2.1
  have oe : opz l ≠ [] := by
    intro e; have := opz_len l; rw [e] at this; simp at this; exact hne (List.length_eq_zero_iff.1 this.symm)
  have len := opz_len l
  have pos3 := y2.2.1
  rw [← y3] at pos3
  have bs := x2.2.1
  rw [← x3, hat] at bs
  rw [hr] at x9
  have sn := c2.1.2.1
  have pos1 : 1 ≤ l.length := by
    cases l with
    | nil => exact absurd rfl hne
    | cons => simp
  have e23 : fl σ4 23 D = fl σ 23 D := by rw [h43 23 D (by omega) (by omega) (by omega)]; exact c8
  obtain ⟨π4, σ', u1, u2, u3, u4, u5, u6⟩ := row_add (N := N) (K := K) (a := a) y8 hrw (by omega) oe (by omega) (fun x hx => (x8.2.2.2.2.2.2.2.1 x hx).2) (by rw [List.length_append]; omega) (by omega) (fun e => by omega)
  have xs' := hxs.ls u3 u4
  rw [e23] at u3 u6
  have ft4 : XFt (fl σ 23 D) π σ π3 σ4 := ⟨c4.1, fun f i q1 q2 q3 q4 => (h43 f i (by omega) q2 q3).trans (c4.2.1 f i q1 q2 q3 q4), fun x j q1 q2 => (e43 x j).trans (c4.2.2.1 x j q1 q2), by rw [h43 1 _ (by omega) (by omega) (by omega)]; exact c4.2.2.2⟩
  have cp4 : cpc π3 σ4 (fl σ 23 D) = cpc π3 σ3 (fl σ 23 D) := by
    unfold cpc
    rw [h43 1 _ (by omega) (by omega) (by omega)]
  have lenI : ((L ++ sgs l).length : Int) = L.length + (sgs l).length := by rw [List.length_append]; omega
  have hi5 : r + 1 ≤ fl τ5 16 0 ∧ fl τ5 16 0 ≤ 32768 := by
    have := g2; have := c7.2.2.2
    exact ⟨by omega, by omega⟩
  refine ⟨π4, σ', u1, u2, ft4.ls u3, by rw [hr]; exact rd5, Or.inr ⟨sgs l ++ [(K, at0, a, 0, 0, 0, 0, opz l)], r, by rw [← List.append_assoc]; exact xs', h5.2.1, h5.2.2.1, by rw [h5.2.2.2.1, hop], ⟨by omega, by omega⟩, ?_, ?_, by omega, by omega, ?_, ?_⟩⟩
  · rw [e5 94 r (by omega) (by omega) (by omega), c7'.1]; omega
  · rw [lenI, hr, hop, hat]
    have k1 : KDs N τ5 (r + 1) (fl τ5 16 0) P L.length l := by
      rw [h5.1]
      exact c3.1.cg ⟨by omega, Int.le_refl _, Int.le_refl _, by omega⟩ (fun x _ a i q1 q2 q3 _ _ _ => e5 a i q1 q2 (by omega))
    have k2 : CHn τ5 (r + 1) (fl τ5 16 0) (l.map qC) (el τ5 87 r) := by
      rw [h5.1, e5 87 r (by omega) (by omega) (by omega)]
      exact c3.2.1.cg (fun a i q1 q2 q3 _ => e5 a i q1 q2 (by omega))
    refine tx_row (K := K) (place := at0) (a := a) (l := l) hN x8.1.2.2.2 ⟨by omega, Int.le_refl _, by omega, by omega⟩ ?_ (by rw [e5 93 r (by omega) (by omega) (by omega)]; exact c7'.2.1) h92 k1 k2 (g5.mono (by omega) (by omega)) ?_ g8 (by omega) (by omega) ⟨by omega, by omega⟩ (by omega)
    · rw [e5 94 r (by omega) (by omega) (by omega), c7'.1]; unfold RKd; omega
    · unfold IV wgt
      rcases hK with q | q
      · exact Or.inr (Or.inr (Or.inr (Or.inr (Or.inr (Or.inl ⟨q.1, oe, by omega⟩)))))
      · exact Or.inr (Or.inr (Or.inr (Or.inr (Or.inr (Or.inr (Or.inl ⟨q.1, ⟨oe, by omega⟩, q.2.2.1⟩))))))
  · rw [hat]; simp; omega
  · rw [hat]
    exact ⟨by omega, by omega⟩
end CLS
