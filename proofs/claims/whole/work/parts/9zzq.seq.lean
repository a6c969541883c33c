/-! a row of a text is begun and added; a sequence, both -/
section RA
variable {N : Nat} {Xo : Int → Prop}
theorem BDy.un {π : Sh} {σ τ : St} {D P s : Int} {L : List Stq} {Kn : List Int} (h : BDy (XR Xo σ s) π σ τ D P L Kn) (h56 : 56 ≤ nn π) : BDy Xo π σ τ D P L Kn := h.own (ext.rf _) (fun _ _ _ _ => rfl) (fun _ _ _ _ => rfl) (fun x hx => ⟨Or.inl (Or.inl hx), h.2.2.2.2.2.2.2.1 x (Or.inl hx)⟩) h56
theorem XC.un {π : Sh} {σ τ : St} {D P s st cl : Int} {L : List Stq} {Kn : List Int} (h : XC (XR Xo σ s) π σ τ D P L Kn st cl) : XC Xo π σ τ D P L Kn st cl := ⟨h.1, h.2.1, h.2.2.1, h.2.2.2.un h.1.1⟩
/-- a finished row is added to the body -/
theorem row_add {π : Sh} {σ τ : St} {n0 s K place a b lw D P : Int} {ops : List Kid} {L : List Stq} {Kn : List Int} (hb : BDy (XR Xo σ s) π σ τ D P L Kn) (hr : RWs π σ n0 s (kcO K) place b ops lw) (hK : K = 4 ∨ K = 6 ∨ K = 7) (hne : ops ≠ []) (hl : ops.length ≤ 2000) (hX : ∀ x, Xo x → x < n0) (hL : L.length ≤ 20000) (h56 : 56 ≤ nn π) (hb7 : K = 7 → b = a) : ∃ π' σ', Df_add N π σ D s = some (π', σ', P + L.length) ∧ ob π D 1 ∧ FLs (fl σ 23 D) π σ π' σ' ∧ BDy Xo π' σ' τ D P (L ++ [(K, place, a, 0, 0, 0, 0, ops)]) Kn ∧ nn π' ≤ nn π + 1 ∧ (sw π' : Int) + 4 * cpc π σ (fl σ 23 D) ≤ sw π + 4 * cpc π' σ' (fl σ 23 D) := by
  obtain ⟨h1, h2, h3, h4, ⟨h5, h5', h5'', h5'''⟩, h6, h7⟩ := hr
  have lw' := h4 hne
  obtain ⟨o1, o2, o3, o4, o5, o6, o7, o8⟩ := h1
  rcases h2 with q | ⟨w1, ⟨a1, a2, a3⟩, ⟨b1, b2, b3⟩, ⟨c1, c2, c3⟩, w5, w6, w7, w8⟩
  · exact absurd q.1 hne
  have bd : BDy Xo π σ τ D P L Kn := hb.un h56
  have sq : SQ π σ s (K, place, a, 0, 0, 0, 0, ops) := by
    refine Or.inr ⟨(show K ≠ 99 by omega), o1, ⟨h5, fun e => absurd e (show ¬ K = 1 by omega), fun _ _ _ => ?_, fun e => ?_, fun e => absurd e (show ¬ (K = 8 ∨ K = 16 ∨ K = 20) by omega), fun e => absurd e (show ¬ (K = 16 ∨ K = 20) by omega), fun _ => ⟨⟨a1, by show (ops.length : Int) ≤ _; omega, by omega⟩, ⟨b1, by show (ops.length : Int) ≤ _; omega, by omega, by omega⟩, ⟨c1, by show (ops.length : Int) ≤ _; omega, by omega⟩, w7, w8⟩, fun e => absurd hK e⟩, h5', ⟨h5''', Or.inl rfl⟩, o3, hl, o4, o6, by omega, by omega, o8⟩
    · show fl σ 202 s = if K = 11 then -a else if K = 4 ∨ K = 6 ∨ K = 7 then wS ops else a
      rw [if_neg (by omega), if_pos hK]; exact h3
    · have e' : 7 ≤ K := e
      have k7 : K = 7 := by omega
      show fl σ 203 s = if K = 7 then a else if K = 21 ∨ K = 22 then 1000003 * 0 else 0
      rw [if_pos k7, h5'']; exact hb7 k7
  have ow : own Xo π σ s := by
    refine ⟨fun q => by have := hX _ q; omega, fun f f1 f2 => ?_⟩
    rcases (show f = 210 ∨ f = 211 ∨ f = 212 ∨ f = 213 by omega) with rfl | rfl | rfl | rfl
    · exact ⟨o4.2.1, fun q => by have := hX _ q; omega⟩
    · exact ⟨a1.2.1, fun q => by have := hX _ q; omega⟩
    · exact ⟨b1.2.1, fun q => by have := hX _ q; omega⟩
    · exact ⟨c1.2.1, fun q => by have := hX _ q; omega⟩
  obtain ⟨π', σ', q1, q2, q3, q4, q5, q6, q7⟩ := c_dfAdd (N := N) h56 bd hL sq ow
  rw [q6] at q5
  exact ⟨π', σ', q1, bd.1.1, q2, q3, q4, q5⟩
/-- a row is begun -/
theorem c_row {π : Sh} {σ τ : St} {D P st cl kd place : Int} {L : List Stq} {Kn : List Int} (h : XS Xo π σ τ D P L Kn st cl) : ∃ π' σ', Sp_init N (nO π 10 14) (zO σ (nn π) dfl) (nn π) kd place = some (π', σ') ∧ ob (nO π 10 14) (nn π) 10 ∧ XS (XR Xo σ' (nn π)) π' σ' τ D P L Kn st cl ∧ RWs π' σ' (nn π) (nn π) kd place 0 [] 0 ∧ FRn (nn π) π σ π' σ' ∧ nn π' = nn π + 2 ∧ sw π' = sw π + 16 ∧ ln π' (fl σ' 210 (nn π)) = 2 := by
  obtain ⟨π', σ', s1, s2, s3, s4, s5, s6, s7, s8⟩ := c_spInit (N := N) (π := π) (σ := σ) (kd := kd) (place := place)
  have n56 := h.1.1
  have bd := h.2.2.2.2.2.2.2.1
  refine ⟨π', σ', s1, ob_nO π 10 14, h.gw s2 (by omega) ?_, ⟨s6, Or.inl ⟨rfl, rfl, s7⟩, s5.2.2.1, fun h => absurd rfl h, ⟨s5.1, s5.2.1, s5.2.2.2.1, s5.2.2.2.2.2.2.1⟩, by omega, Int.le_refl _⟩, s2, s3, s4, s8⟩
  refine bd.own s2.1 (fun f i hi _ => s2.2.1 f i hi) (fun a j ha _ => s2.2.2 a j ha) (fun x hx => ?_) (by omega)
  rcases hx with q | q | ⟨q56, q⟩
  · have := bd.2.2.2.2.2.2.2.1 x q
    exact ⟨Or.inl q, this.1, by omega⟩
  · exact ⟨Or.inr (by omega), by omega, by omega⟩
  · rw [s7.1, s7.2.1, s7.2.2] at q
    have q1 : x = fl σ' 210 (nn π) := by omega
    have := s6.2.2.2.1.2.1
    have := s6.2.2.2.2.1
    exact ⟨Or.inr (by omega), q56, by omega⟩
/-- no step yet -/
theorem sc_nil {D P st cl r lo d at0 m0 kd kR place s : Int} {L0 : List Stq} {Kn : List Int} {π0 π : Sh} {σ0 τ0 σ τ : St} (hx : XS (XR Xo σ s) π σ τ D P L0 Kn st cl) (hr : RWs π σ (nn π0) s kd place 0 [] 0) (h87 : el τ 87 r = -1) (hft : XFt (fl σ0 23 D) π0 σ0 π σ) (hrd : RDr lo d τ0 τ) (h13 : fl τ 13 0 = fl τ0 13 0) (hb : 0 ≤ lo ∧ lo ≤ r ∧ r < m0 ∧ m0 ≤ fl τ 16 0) (hk : el τ 94 r = kR ∧ el τ 93 r = place ∧ el τ 92 r = 0) (h23 : fl σ 23 D = fl σ0 23 D) (hat : at0 ≤ fl τ 2 0) (hm : fl τ 16 0 ≤ m0 + 3 * (fl τ 2 0 - at0)) (hn : (nn π : Int) ≤ nn π0 + 2 + 12 * (fl τ 2 0 - at0)) (hs : (sw π : Int) + 4 * cpc π0 σ0 (fl σ0 23 D) ≤ sw π0 + 4 * cpc π σ (fl σ0 23 D) + 16 + 100 * (fl τ 2 0 - at0) + 2 * ln π (fl σ 210 s)) : SCo Xo N D P L0 Kn st cl r lo d at0 m0 kd kR place s π0 σ0 τ0 π σ τ [] 0 := by
  refine ⟨?_, hr, RK.nil h87, hft, hrd, h13, hb, hk, h23, ?_⟩
  · show XS (XR Xo σ s) π σ τ D P (L0 ++ []) Kn st cl
    rw [List.append_nil]; exact hx
  · refine ⟨by show ((0 : Nat) : Int) ≤ _; omega, hm, by show ((0 : Nat) : Int) ≤ _; omega, by show ((0 : Nat) : Int) ≤ _; omega, trivial, hn, ?_, fun o ho => absurd ho (by unfold opz; simp)⟩
    show (sw π : Int) + 4 * cpc π0 σ0 (fl σ0 23 D) + 50 * ((0 : Nat) : Int) ≤ _
    omega
end RA
