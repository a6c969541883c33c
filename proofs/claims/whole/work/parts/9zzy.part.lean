/-! any part of a text, both -/
section PA
variable {N : Nat} {Xo : Int → Prop}
theorem bk_lp {D P st cl r d at0 op s : Int} {L : List Stq} {Kn : List Int} {π0 : Sh} {σ0 τ0 : St} {rP : Sh → St → Option (Sh × St × Int)} (hN : 30000001 ≤ N) (h0 : XS Xo π0 σ0 τ0 D P L Kn st cl) (hop : fl τ0 13 0 = op) (hop' : op < 20) (hat : fl τ0 2 0 = at0) (hr : fl τ0 16 0 = r) (hPT : PTH N D P Kn st cl rP (op + 1)) (hd : 0 ≤ d ∧ d ≤ 10 * op + 20) (hL : (L.length : Int) + 2 * (cl + 1 - at0) + 4 * (21 - op) ≤ 19000) (hM : r + 3 * (cl + 1 - at0) + 8 * (21 - op) ≤ 32768) : ∀ (m n : Nat) (π : Sh) (σ τ : St) (l : List Kdr), cl - fl τ 2 0 < m → m < n → BKi Xo N D P L Kn st cl r d at0 op s π0 σ0 τ0 π (sf σ 222 50 (fl σ 222 50 + 1)) τ l → ∃ π' σ' τ' o k, Tx_bracket_18 N rP n π σ s 1 l.length = some (π', σ', o) ∧ RLp N k τ τ' ∧ PTo Xo N D P L Kn st cl d π0 σ0 τ0 π' σ' τ' o ∧ (fl τ' 11 0 = 0 → (k : Int) + 6 ≤ 8 * (fl τ' 2 0 - fl τ 2 0)) ∧ (k : Int) ≤ 8 * (cl + 1 - fl τ 2 0) + 8 * (20 - op) + 5
  | 0, _, _, _, _, _, h, _, hc => by
    have a := hc.1.2.2.1
    have b := hc.1.2.1.2.1
    simp at h
    omega
  | m + 1, 0, _, _, _, _, _, h, _ => absurd h (by omega)
  | m + 1, n + 1, _, _, _, _, hm, hmn, hc => bk_one hN h0 hop hop' hat hr hPT hd hL hM (bk_lp hN h0 hop hop' hat hr hPT hd hL hM m n) hm hmn hc
set_option maxHeartbeats 2000000 in
/-- a bracket -/
theorem pt_brk {D P st cl d op : Int} {L : List Stq} {Kn : List Int} {π : Sh} {σ τ : St} {rP : Sh → St → Option (Sh × St × Int)} (hN : 30000001 ≤ N) (h : XS Xo π σ τ D P L Kn st cl) (hop : fl τ 13 0 = op) (hop' : op < 20) (hPT : PTH N D P Kn st cl rP (op + 1)) (hF : FR12 τ d 12 0) (hd : d ≤ 10 * op + 20) (hL : (L.length : Int) + 2 * (cl + 1 - fl τ 2 0) + 4 * (21 - op) ≤ 19000) (hM : fl τ 16 0 + 3 * (cl + 1 - fl τ 2 0) + 8 * (21 - op) ≤ 32768) (hb : bA τ (fl τ 2 0) = 91) : ∃ π' σ' τ' o k, Tx_part N rP π σ = some (π', σ', o) ∧ RLp N k τ τ' ∧ PTo Xo N D P L Kn st cl d π σ τ π' σ' τ' o ∧ (fl τ' 11 0 = 0 → (k : Int) + 4 ≤ 8 * (fl τ' 2 0 - fl τ 2 0)) ∧ (k : Int) ≤ 8 * (cl + 1 - fl τ 2 0) + 8 * (21 - op) := by
  obtain ⟨x1, x2, x3, ⟨x4, x4'⟩, x5, x6, x7, x8, x9⟩ := id h
  obtain ⟨a0, ⟨b1, b2, b3, b4, b5⟩, e0, d0⟩ := id x2
  have size := a0.2.2.1
  have n56 := x1.1
  have N3 : 3000 ≤ N := by omega
  obtain ⟨dd1, dd2, dd3, dd4, dd5⟩ := x8.b
  obtain ⟨F1, F2, F3, F4, F5⟩ := id hF
  obtain ⟨at0, hat⟩ : ∃ at0, fl τ 2 0 = at0 := ⟨_, rfl⟩
  obtain ⟨r, hr⟩ : ∃ r, fl τ 16 0 = r := ⟨_, rfl⟩
  rw [hat] at hL hM hb
  rw [hr] at hM x9
  have s222 : fl σ 222 50 = at0 := by rw [← x3]; exact hat
  rw [s222] at b3 b4
  rw [hop] at x5
  have acl : at0 < cl := by
    by_cases c : at0 < cl
    · exact c
    · rw [show at0 = cl by omega, e0] at hb; omega
  obtain ⟨τ2, hτ2⟩ : ∃ τ2, τ2 = opN τ d at0 r op 91 25 0 := ⟨_, rfl⟩
  have r1 : RLp N 1 τ τ2 := by
    refine RLp.one F1 ⟨by omega, by omega⟩ x4' ⟨F3, by decide, by decide⟩ ?_
    rw [r_open (kR := 25) x2 ⟨hat, by omega, by omega⟩ hop ⟨x5.2.1, hop'⟩ ⟨hr, x9, by omega⟩ hF hb (Or.inl ⟨rfl, rfl⟩), if_pos rfl, hτ2]
  obtain ⟨⟨v41, v16, v13, v2⟩, vf, ⟨w74, w73, w72, u74, u72, u71⟩, ⟨m94, m93, m92, m87, m86⟩, rd, rd'⟩ := opN_v F1 hr τ2 hτ2
  obtain ⟨σo, hσo⟩ : ∃ σo, σo = sf σ 184 1 (op + 1) := ⟨_, rfl⟩
  obtain ⟨τo, hτo⟩ : ∃ τo, τo = sf τ 13 0 (op + 1) := ⟨_, rfl⟩
  have ho : XS Xo π σo τo D P L Kn st cl := by rw [hσo, hτo]; exact h.op ⟨by omega, by omega⟩
  rw [← hτo] at rd'
  have go : ∀ (f : Nat) (i : Int), ¬ (f = 184 ∧ i = 1) → fl σo f i = fl σ f i := fun f i hx => by rw [hσo, fl_sf, if_neg hx]
  obtain ⟨π1, σ1, q1, q2, q3, q4, q5, q6, q7, q8⟩ := c_row (N := N) (kd := 8) (place := at0) ho
  obtain ⟨s, hs⟩ : ∃ s : Int, s = nn π := ⟨_, rfl⟩
  rw [← hs] at q1 q2 q3 q4 q8
  have at1 : fl σ1 222 50 = at0 := by rw [q5.2.1 222 50 (by omega), go 222 50 (by omega)]; exact s222
  obtain ⟨σ2, hσ2⟩ : ∃ σ2, σ2 = sf σ1 222 50 (at0 + 1) := ⟨_, rfl⟩
  have h1 := q3.at (k := at0 + 1) (by rw [at1]; omega)
  rw [← hσ2] at h1
  have xf2 : XFc σ1 σ2 := by rw [hσ2]; exact (XFc.rf σ1).at _
  have h2 : XS (XR Xo σ2 s) π1 σ2 τ2 D P L Kn st cl := by
    rw [XR.eq (σ := σ1) (fun f _ _ => xf2.1 f s (by omega) (by omega))]
    refine h1.rd rd' ⟨by rw [v2, fl_sfs], ?_, ?_, ?_, by rw [v16]; omega⟩
    · rw [vf 11 0 (by decide) (by decide) (by decide) (by decide), fl_sfn _ _ _ _ (by decide), hτo, fl_sfn _ _ _ _ (by decide)]
    · rw [v13, fl_sfn _ _ _ _ (by decide), hτo, fl_sfs]
    · rw [vf 47 0 (by decide) (by decide) (by decide) (by decide), fl_sfn _ _ _ _ (by decide), hτo, fl_sfn _ _ _ _ (by decide)]
  have ft1 : XFt (fl σ 23 D) π σ π1 σ1 := ((XFt.rf _ π σ).st (σ2 := σo) (fun f i y z => go f i (by omega)) (fun a j => by rw [hσo]; rfl) (by omega)).nw q5 (Int.le_refl _) dd2.2
  have ft2 : XFt (fl σ 23 D) π σ π1 σ2 := ft1.xf xf2 (by omega)
  have e23 : fl σ2 23 D = fl σ 23 D := by rw [xf2.1 23 D (by omega) (by omega), q5.2.1 23 D (by omega), go 23 D (by omega)]
  have cp2 : cpc π1 σ2 (fl σ 23 D) = cpc π σ (fl σ 23 D) := by
    unfold cpc
    rw [xf2.1 1 _ (by omega) (by omega), q5.2.1 1 _ dd2.2, go 1 _ (by omega)]
    by_cases c : fl σ 1 (fl σ 23 D) < 0
    · rw [if_pos c, if_pos c]
    · rw [if_neg c, if_neg c, (q5.1.2.2 _ dd4).2]
  obtain ⟨k1, k2, k3, k4, k5, k6, k7⟩ := (q4.xf xf2).1
  have k2' : fl σ2 211 s = -1 ∧ fl σ2 212 s = -1 ∧ fl σ2 213 s = -1 := by
    rcases k2 with k2 | k2
    · exact k2.2.2
    · exact absurd rfl k2.1
  have bki : BKi Xo N D P L Kn st cl r d at0 op s π σ τ π1 σ2 τ2 [] := by
    refine ⟨by show XS _ _ _ _ _ _ (L ++ []) _ _ _; rw [List.append_nil]; exact h2, ⟨by rw [← hs]; exact k1, k2', ⟨k5.1, k5.2.1, k5.2.2.2⟩, by rw [← hs]; exact k6⟩, RK.nil m87, ft2, rd, v13, ⟨by omega, by rw [v16]; omega⟩, ⟨m94, m93, m92⟩, e23, ⟨v41, by rw [w74]; exact F3, w73, w72⟩, ⟨u74, u72, u71⟩, ?_⟩
    unfold BBg
    rw [v2, v16, cp2]
    refine ⟨by show ((0 : Nat) : Int) ≤ _; omega, by omega, by show ((0 : Nat) : Int) ≤ _; omega, by show ((0 : Nat) : Int) ≤ _; omega, trivial, by omega, ?_, fun o ho => absurd ho (by unfold opz; simp)⟩
    rw [xf2.1 210 s (by omega) (by omega), q8]
    show (sw π1 : Int) + 4 * cpc π σ (fl σ 23 D) + 60 * ((0 : Nat) : Int) ≤ _
    omega
  have e2 : sf σ1 222 50 (fl σ1 222 50 + 1) = σ2 := by rw [at1, hσ2]
  rw [← e2] at bki
  obtain ⟨π', σ', τ', o, k, p1, p2, p3, p4, p5⟩ := bk_lp (N := N) hN h hop hop' hat hr hPT ⟨F2.1, hd⟩ hL hM ((cl - (at0 + 1)).toNat + 1) N π1 σ1 τ2 [] (by rw [v2]; omega) (by omega) bki
  have p1' : Tx_bracket_18 N rP N π1 σ1 s 1 0 = some (π', σ', o) := p1
  rw [v2] at p4 p5
  refine ⟨π', σ', τ', o, 1 + k, ?_, r1.tr p2, p3, fun e => by have := p4 e; rw [hat]; omega, by rw [hat]; omega⟩
  have fz : fl (zO σo s dfl) 222 50 = at0 := by rw [fl_zO, if_neg (by omega), go 222 50 (by omega)]; exact s222
  rw [c_part105 (b := 91) x2 (by rw [s222]; exact hb) (by decide), Tx_part_105, Sc_opens, x5.1, grd_t (by exact ⟨by omega, by omega⟩), if_pos hop', Option.bind_some]
  simp only
  rw [grd_t (by decide), if_neg (by decide), grd_t (by decide), if_pos trivial, ← hσo, Tx_bracket, ← hs, Tx_bracket_3, fz, q1, Option.bind_some, grd_t q2, Tx_bracket_13, p1', Option.bind_some, Tx_part_131, Tx_part_151]
/-- no part -/
theorem pt_bad {D P st cl d : Int} {L : List Stq} {Kn : List Int} {π : Sh} {σ τ : St} {rP : Sh → St → Option (Sh × St × Int)} (h : XS Xo π σ τ D P L Kn st cl) (hF : FR12 τ d 12 0) (hb : ¬ stP (bA τ (fl σ 222 50))) : ∃ π' σ' τ' o, Tx_part N rP π σ = some (π', σ', o) ∧ RLp N 1 τ τ' ∧ PTo Xo N D P L Kn st cl d π σ τ π' σ' τ' o ∧ fl τ' 11 0 ≠ 0 := by
  obtain ⟨x1, x2, x3, ⟨x4, x4'⟩, x5, x6, x7, x8, x9⟩ := id h
  obtain ⟨a0, ⟨b1, b2, b3, b4, b5⟩, e0, d0⟩ := id x2
  have size := a0.2.2.1
  obtain ⟨F1, F2, F3, F4, F5⟩ := id hF
  have n56 := x1.1
  obtain ⟨dd1, dd2, -⟩ := x8.b
  obtain ⟨at0, hat0⟩ : ∃ at0, at0 = fl σ 222 50 := ⟨_, rfl⟩
  rw [← hat0] at hb b3 b4
  obtain ⟨b, hb'⟩ : ∃ b, b = bA τ at0 := ⟨_, rfl⟩
  rw [← hb'] at hb
  have bb := bA_rg a0 at0
  have i1 : i32 b := by rw [hb']; exact ⟨by omega, by omega⟩
  unfold stP at hb
  have nl : ¬ isLt b := fun q => hb (Or.inl q)
  have nd : ¬ isDg b := fun q => hb (Or.inr (Or.inl q))
  have n3 : b ≠ 45 ∧ b ≠ 126 ∧ b ≠ 91 ∧ b ≠ 60 ∧ b ≠ 123 := ⟨fun q => hb (by simp [q]), fun q => hb (by simp [q]), fun q => hb (by simp [q]), fun q => hb (by simp [q]), fun q => hb (by simp [q])⟩
  have t2 : fl τ 2 0 = at0 := by rw [x3, hat0]
  obtain ⟨σ1, hσ1⟩ : ∃ σ1, σ1 = flS σ 1 at0 := ⟨_, rfl⟩
  obtain ⟨τ1, hτ1⟩ : ∃ τ1, τ1 = sf (sf τ 11 0 1) 12 0 at0 := ⟨_, rfl⟩
  have z0 := flS_0 (x := 1) (y := at0) x4
  have z2 := flS_222 σ 1 at0
  have xf : XFc σ σ1 := by rw [hσ1]; exact flS_xf (XFc.rf σ) _ _
  have xr : XFr τ τ1 := by rw [hτ1]; exact ⟨fun f i _ _ a b => by rw [fl_sfn _ _ _ _ b, fl_sfn _ _ _ _ a], fun _ _ => rfl⟩
  have t11 : fl τ1 11 0 = 1 := by rw [hτ1, fl_sfn _ _ _ _ (by decide), fl_sfs]
  have t12 : fl τ1 12 0 = at0 := by rw [hτ1, fl_sfs]
  have cl1 : Tx_part N rP π σ = some (π, σ1, 0) := by
    rw [Tx_part, c_here x2, Option.bind_some, ← hat0, ← hb', c_isLetter i1, if_neg nl, Option.bind_some, grd_t (by decide), if_pos rfl, c_isDigit i1, if_neg nd, Option.bind_some, grd_t (by decide), if_pos rfl, grd_t i1]
    simp only
    rw [if_neg n3.1, if_neg n3.2.1, if_neg n3.2.2.1, if_neg n3.2.2.2.1, if_neg n3.2.2.2.2, c_fail (by rw [x4]; decide), Option.bind_some, hσ1, hat0]
  have rrd : rdK N 12 τ d = some τ1 := by
    have e : rdK N 12 τ d = r_readPart N τ d := by unfold rdK; simp
    rw [e, r_readPart, t2, rr_byteAt a0 (by exact ⟨by omega, by omega⟩), Option.bind_some, grd_t (by exact ⟨F2.1, by omega⟩)]
    simp only
    rw [F4, grd_t (by decide), if_neg (by decide), ← hb', rr_isLow i1, if_neg nl, Option.bind_some, grd_t (by decide), if_pos rfl, rr_isDigit i1, if_neg nd, Option.bind_some, grd_t (by decide), if_pos rfl, grd_t i1, if_neg n3.1, if_neg n3.2.1, if_neg n3.2.2.1, if_neg n3.2.2.2.1, if_neg n3.2.2.2.2, t2, r_fail0 x4', Option.bind_some, hτ1]
  have xb1 : XB σ1 τ1 st cl := x2.xf xf xr (by rw [hσ1, z2.1]; omega) (by rw [hσ1, z2.1]; omega)
  have cp : cpc π σ1 (fl σ 23 D) = cpc π σ (fl σ 23 D) := by unfold cpc; rw [xf.1 1 _ (by omega) (by omega)]
  refine ⟨π, σ1, τ1, 0, cl1, RLp.one F1 ⟨by omega, by omega⟩ x4' ⟨F3, by decide, by decide⟩ rrd, ⟨(XFt.rf _ π σ).xf xf (by omega), (RDr.rf _ _ τ).xf xr, Or.inl ⟨⟨by rw [hσ1, z0.1, t11], by rw [hσ1, z0.2, t12], by rw [t11]; omega⟩, ⟨L, h.xc.xf xf ((RDr.rf 0 0 τ).xf xr) xb1, by omega⟩, by omega, by rw [cp]; omega⟩⟩, by rw [t11]; decide⟩
/-- any part -/
theorem pt_all {D P st cl d op : Int} {L : List Stq} {Kn : List Int} {π : Sh} {σ τ : St} {rP : Sh → St → Option (Sh × St × Int)} (hN : 30000001 ≤ N) (h : XS Xo π σ τ D P L Kn st cl) (hop : fl τ 13 0 = op) (hPT : op < 20 → PTH N D P Kn st cl rP (op + 1)) (hF : FR12 τ d 12 0) (hd : d ≤ 10 * op + 20) (hL : (L.length : Int) + 2 * (cl + 1 - fl τ 2 0) + 4 * (21 - op) ≤ 19000) (hM : fl τ 16 0 + 3 * (cl + 1 - fl τ 2 0) + 8 * (21 - op) ≤ 32768) : ∃ π' σ' τ' o k, Tx_part N rP π σ = some (π', σ', o) ∧ RLp N k τ τ' ∧ PTo Xo N D P L Kn st cl d π σ τ π' σ' τ' o ∧ (fl τ' 11 0 = 0 → (k : Int) + 4 ≤ 8 * (fl τ' 2 0 - fl τ 2 0)) ∧ (k : Int) ≤ 8 * (cl + 1 - fl τ 2 0) + 8 * (21 - op) := by
  have x2 := h.2.1
  have b := x2.2.1
  have x3 := h.2.2.1
  have x5 := h.2.2.2.2.1
  rw [hop] at x5
  have hL' : L.length ≤ 19000 := by omega
  have hn : fl τ 16 0 + 3 ≤ 32768 := by omega
  have leaf : ∀ (π' : Sh) (σ' τ' : St) (o : Int), Tx_part N rP π σ = some (π', σ', o) → RLp N 1 τ τ' → PTo Xo N D P L Kn st cl d π σ τ π' σ' τ' o → ∃ π' σ' τ' o k, Tx_part N rP π σ = some (π', σ', o) ∧ RLp N k τ τ' ∧ PTo Xo N D P L Kn st cl d π σ τ π' σ' τ' o ∧ (fl τ' 11 0 = 0 → (k : Int) + 4 ≤ 8 * (fl τ' 2 0 - fl τ 2 0)) ∧ (k : Int) ≤ 8 * (cl + 1 - fl τ 2 0) + 8 * (21 - op) := fun π' σ' τ' o e1 e2 e3 => by
    refine ⟨π', σ', τ', o, 1, e1, e2, e3, fun e => ?_, by omega⟩
    rcases e3.2.2 with q | ⟨seg, n, q⟩
    · have := q.1.2.2; omega
    · have := q.2.2.2.2.2.2.2.1; omega
  by_cases cs : stP (bA τ (fl σ 222 50))
  · unfold stP at cs
    have deep : ∀ c : Int, bA τ (fl σ 222 50) = c → (c = 91 ∨ c = 60 ∨ c = 123) → op = 20 → ∃ π' σ' τ' o k, Tx_part N rP π σ = some (π', σ', o) ∧ RLp N k τ τ' ∧ PTo Xo N D P L Kn st cl d π σ τ π' σ' τ' o ∧ (fl τ' 11 0 = 0 → (k : Int) + 4 ≤ 8 * (fl τ' 2 0 - fl τ 2 0)) ∧ (k : Int) ≤ 8 * (cl + 1 - fl τ 2 0) + 8 * (21 - op) := fun c e1 e2 e3 => by
      obtain ⟨π', σ', τ', o, q1, q2, q3, -⟩ := pt_deep (N := N) (rP := rP) h (by rw [hop]; exact e3) hF e1 e2
      exact leaf π' σ' τ' o q1 q2 q3
    rcases cs with q | q | q | q | q | q | q
    · obtain ⟨π', σ', τ', o, q1, q2, q3⟩ := pt_word (N := N) (rP := rP) hN h hF hL' hn q
      exact leaf π' σ' τ' o q1 q2 q3
    · obtain ⟨π', σ', τ', o, q1, q2, q3⟩ := pt_num (N := N) (rP := rP) hN h hF hL' hn (Or.inl q)
      exact leaf π' σ' τ' o q1 q2 q3
    · obtain ⟨π', σ', τ', o, q1, q2, q3⟩ := pt_num (N := N) (rP := rP) hN h hF hL' hn (Or.inr q)
      exact leaf π' σ' τ' o q1 q2 q3
    · obtain ⟨π', σ', τ', o, q1, q2, q3⟩ := pt_rest (N := N) (rP := rP) hN h hF hL' hn q
      exact leaf π' σ' τ' o q1 q2 q3
    · by_cases c : op < 20
      · exact pt_brk hN h hop c (hPT c) hF hd hL hM (by rw [x3]; exact q)
      · exact deep 91 q (by decide) (by omega)
    · by_cases c : op < 20
      · exact pt_turn hN h hop c (hPT c) hF hd hL hM (by rw [x3]; exact q)
      · exact deep 60 q (by decide) (by omega)
    · by_cases c : op < 20
      · exact pt_poly hN h hop c (hPT c) hF hd hL hM (by rw [x3]; exact q)
      · exact deep 123 q (by decide) (by omega)
  · obtain ⟨π', σ', τ', o, q1, q2, q3, -⟩ := pt_bad (N := N) (rP := rP) h hF cs
    exact leaf π' σ' τ' o q1 q2 q3
/-- parts at any depth -/
theorem pth_all {D P st cl : Int} {Kn : List Int} (hN : 30000001 ≤ N) : ∀ (n : Nat) (op : Int), 20 - op ≤ n → 0 ≤ op → PTH N D P Kn st cl (Tx_partC N (n + 1)) op
  | 0, op, h1, h2 => fun Xo π σ τ L d h hop hF hd hL hM => by
    have := h.2.2.2.2.1.2
    rw [Tx_partC]
    exact pt_all hN h hop (fun c => by simp at h1; omega) hF hd hL hM
  | n + 1, op, h1, h2 => fun Xo π σ τ L d h hop hF hd hL hM => by
    rw [Tx_partC]
    exact pt_all hN h hop (fun c => pth_all hN n (op + 1) (by omega) (by omega)) hF hd hL hM
end PA
