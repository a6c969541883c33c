/-! a part that opens a sign: so many steps a cycle -/
section PO
variable {N : Nat} {Xo : Int → Prop}
set_option maxHeartbeats 4000000 in
theorem pt_poly {D P st cl d op : Int} {L : List Stq} {Kn : List Int} {π : Sh} {σ τ : St} {rP : Sh → St → Option (Sh × St × Int)} (hN : 30000001 ≤ N) (h : XS Xo π σ τ D P L Kn st cl) (hop : fl τ 13 0 = op) (hop' : op < 20) (hPT : PTH N D P Kn st cl rP (op + 1)) (hF : FR12 τ d 12 0) (hd : d ≤ 10 * op + 20) (hL : (L.length : Int) + 2 * (cl + 1 - fl τ 2 0) + 4 * (21 - op) ≤ 19000) (hM : fl τ 16 0 + 3 * (cl + 1 - fl τ 2 0) + 8 * (21 - op) ≤ 32768) (hb : bA τ (fl τ 2 0) = 123) : ∃ π' σ' τ' o k, Tx_part N rP π σ = some (π', σ', o) ∧ RLp N k τ τ' ∧ PTo Xo N D P L Kn st cl d π σ τ π' σ' τ' o ∧ (fl τ' 11 0 = 0 → (k : Int) + 4 ≤ 8 * (fl τ' 2 0 - fl τ 2 0)) ∧ (k : Int) ≤ 8 * (cl + 1 - fl τ 2 0) + 8 * (21 - op) := by
  obtain ⟨x1, x2, x3, ⟨x4, x4'⟩, x5, x6, x7, x8, x9⟩ := id h
  have n56 := x1.1
  have N3 : 3000 ≤ N := by omega
  obtain ⟨dd1, dd2, dd3, dd4, dd5⟩ := x8.b
  obtain ⟨at0, hat⟩ : ∃ at0, fl τ 2 0 = at0 := ⟨_, rfl⟩
  obtain ⟨r, hr⟩ : ∃ r, fl τ 16 0 = r := ⟨_, rfl⟩
  rw [hat] at hL hM hb
  rw [hr] at hM
  have s222 : fl σ 222 50 = at0 := by rw [← x3]; exact hat
  rw [hop] at x5
  obtain ⟨F1, F2, F3, F4, F5⟩ := id hF
  obtain ⟨π1, σ1, τ2, π3, σ3, τ3, k, q1, q2, q3, q4, q5, q6, q7, q8, q9, q10, q11, q12⟩ := row_open (N := N) (kd := 6) (kR := 27) hN h hop ⟨x5.2.1, hop'⟩ hPT hF hd hat hr hb (Or.inr ⟨rfl, rfl, rfl⟩) hL hM
  obtain ⟨s, hs⟩ : ∃ s : Int, s = nn π := ⟨_, rfl⟩
  rw [← hs] at q1 q2 q4 q6
  have cls : Tx_part N rP π σ = Tx_poly_29 N rP π3 σ3 s := by
    have fz : fl (zO (sf σ 184 1 (op + 1)) s dfl) 222 50 = at0 := by rw [fl_zO, if_neg (by omega), fl_sfn _ _ _ _ (by decide)]; exact s222
    rw [c_part105 (b := 123) x2 (by rw [s222]; exact hb) (by decide), Tx_part_105, Sc_opens, x5.1, grd_t (by exact ⟨by omega, by omega⟩), if_pos hop', Option.bind_some]
    simp only
    rw [grd_t (by decide), if_neg (by decide), grd_t (by decide), if_neg (by decide), if_neg (by decide), Tx_poly, ← hs, Tx_poly_3, fz, q1, Option.bind_some, grd_t q2, Tx_poly_13, bnd, q3, q4, Option.bind_some]
    simp only
    cases Tx_poly_29 N rP π3 σ3 s <;> rfl
  -- a fault
  have finF : ∀ (σ5 τ5 : St) (v : Int) (k' : Nat) (L' : List Stq), Tx_poly_29 N rP π3 σ3 s = some (π3, sf σ5 203 s v, 0) → RLp N k' τ τ5 → (k' : Int) ≤ k + 1 → XC (XR Xo σ5 s) π3 σ5 τ5 D P L' Kn st cl → FLT σ5 τ5 → XFt (fl σ 23 D) π σ π3 σ5 → RDr r d τ τ5 → (L'.length : Int) ≤ L.length + 2 * (cl + 1 - at0) → (nn π3 : Int) ≤ nn π + 12 * (cl + 1 - at0) + 20 * (21 - op) → (sw π3 : Int) + 4 * cpc π σ (fl σ 23 D) ≤ sw π + 4 * cpc π3 σ5 (fl σ 23 D) + 100 * (cl + 1 - at0) + 200 * (21 - op) → ∃ π' σ' τ' o k, Tx_part N rP π σ = some (π', σ', o) ∧ RLp N k τ τ' ∧ PTo Xo N D P L Kn st cl d π σ τ π' σ' τ' o ∧ (fl τ' 11 0 = 0 → (k : Int) + 4 ≤ 8 * (fl τ' 2 0 - fl τ 2 0)) ∧ (k : Int) ≤ 8 * (cl + 1 - fl τ 2 0) + 8 * (21 - op) := by
    intro σ5 τ5 v k' L' e1 e2 e3 e4 e5 e6 e7 e8 e9 e10
    have g : ∀ (g : Nat) (i : Int), i ≠ s → fl (sf σ5 203 s v) g i = fl σ5 g i := fun g i hx => by rw [fl_sf, if_neg (fun h => hx h.2)]
    have cp : cpc π3 (sf σ5 203 s v) (fl σ 23 D) = cpc π3 σ5 (fl σ 23 D) := by unfold cpc; rw [g 1 _ (by omega)]
    refine ⟨π3, sf σ5 203 s v, τ5, 0, k', by rw [cls, e1], e2, ⟨e6.own ((FRn.rf _ _ _).sf 203 v (by omega)) (g 1 _ (by omega)), by rw [hr]; exact e7, Or.inl ⟨⟨by rw [g 182 1 (by omega)]; exact e5.1, by rw [g 183 1 (by omega)]; exact e5.2.1, e5.2.2⟩, ⟨L', e4.sw (by omega) 203 v, by rw [hat]; exact e8⟩, ?_⟩⟩, fun e => by have := e5.2.2; omega, by rw [hat]; omega⟩
    rw [hat, hop]
    exact ⟨by omega, by rw [cp]; omega⟩
  -- behind the closing sign, with a fault
  have fin37 : ∀ (σ4 τ4 : St) (k' : Nat) (L' : List Stq), Tx_poly_29 N rP π3 σ3 s = (Option.bind (Tx_take N π3 (sf σ4 184 1 (fl σ4 184 1 - 1)) 37) (fun r19 => grd (i32 (fl r19 182 1)) (if (fl r19 182 1) = 0 then Option.bind (Tx_number N π3 r19 1 32) (fun r25 => Tx_poly_76 N rP π3 r25.1 s r25.2 s) else Tx_poly_76 N rP π3 r19 s 1 s))) → RLp N k' τ τ4 → (k' : Int) ≤ k + 1 → XC (XR Xo σ4 s) π3 σ4 τ4 D P L' Kn st cl → FLT σ4 τ4 → XFt (fl σ 23 D) π σ π3 σ4 → RDr r d τ τ4 → (L'.length : Int) ≤ L.length + 2 * (cl + 1 - at0) → (nn π3 : Int) ≤ nn π + 12 * (cl + 1 - at0) + 20 * (21 - op) → (sw π3 : Int) + 4 * cpc π σ (fl σ 23 D) ≤ sw π + 4 * cpc π3 σ4 (fl σ 23 D) + 100 * (cl + 1 - at0) + 200 * (21 - op) → ob π3 s 10 → ∃ π' σ' τ' o k, Tx_part N rP π σ = some (π', σ', o) ∧ RLp N k τ τ' ∧ PTo Xo N D P L Kn st cl d π σ τ π' σ' τ' o ∧ (fl τ' 11 0 = 0 → (k : Int) + 4 ≤ 8 * (fl τ' 2 0 - fl τ 2 0)) ∧ (k : Int) ≤ 8 * (cl + 1 - fl τ 2 0) + 8 * (21 - op) := by
    intro σ4 τ4 k' L' e1 e2 e3 e4 e5 e6 e7 e8 e9 e10 e11
    have f5 : ∀ (f : Nat) (i : Int), ¬ (f = 184 ∧ i = 1) → fl (sf σ4 184 1 (fl σ4 184 1 - 1)) f i = fl σ4 f i := fun f i hx => by rw [fl_sf, if_neg hx]
    have xo := e4.op (fl σ4 184 1 - 1)
    have n182 : i32 (fl (sf σ4 184 1 (fl σ4 184 1 - 1)) 182 1) ∧ fl (sf σ4 184 1 (fl σ4 184 1 - 1)) 182 1 ≠ 0 := by
      rw [f5 182 1 (by omega)]
      have := e5.1; have := e5.2.2
      exact ⟨⟨by omega, by omega⟩, by omega⟩
    obtain ⟨σ5, y1, y2, y3, y4, y5⟩ := x_tak_any (N := N) (π := π3) (s := 37) N3 xo.2.1 n182.1 (by decide) n182.2
    have xc := xo.xf y2 (RDr.rf 0 0 τ4) y3
    have xr : XR Xo σ5 s = XR Xo σ4 s := XR.eq (fun f _ _ => by rw [y2.1 f s (by omega) (by omega), f5 f s (by omega)])
    have i5 : i32 (fl σ5 182 1) ∧ fl σ5 182 1 ≠ 0 := by rw [y4]; exact n182
    refine finF σ5 τ4 1 k' L' ?_ e2 e3 (by rw [xr]; exact xc) ⟨by rw [y4, f5 182 1 (by omega)]; exact e5.1, by rw [y5, f5 183 1 (by omega)]; exact e5.2.1, e5.2.2⟩ ((e6.st (fun f i a b => f5 f i (by omega)) (fun _ _ => rfl) (by omega)).xf y2 (by omega)) e7 e8 e9 ?_
    · rw [e1, y1, Option.bind_some, grd_t i5.1, if_neg i5.2, Tx_poly_76, grd_t e11, grd_t i5.1, if_neg i5.2]
    · have c : cpc π3 σ5 (fl σ 23 D) = cpc π3 σ4 (fl σ 23 D) := by unfold cpc; rw [y2.1 1 _ (by omega) (by omega), f5 1 _ (by omega)]
      rw [c]; exact e10
  rcases q6 with ⟨w1, ⟨L', w2, w2'⟩, ⟨ops, lw, w3⟩, w4, w5, w6⟩ | ⟨l, lw, w1, w2, w3, w4, w5⟩
  · have n182 : i32 (fl σ3 182 1) ∧ fl σ3 182 1 ≠ 0 := by
      have := w1.1; have := w1.2.2
      exact ⟨⟨by omega, by omega⟩, by omega⟩
    obtain ⟨σ4, y1, y2, y3, y4, y5⟩ := x_tak_any (N := N) (π := π3) (s := 125) N3 w2.2.1 n182.1 (by decide) n182.2
    have xc := w2.xf y2 (RDr.rf 0 0 τ3) y3
    have xr : XR Xo σ4 s = XR Xo σ3 s := XR.eq (fun f _ _ => y2.1 f s (by omega) (by omega))
    rw [q7] at w6
    have c : cpc π3 σ4 (fl σ 23 D) = cpc π3 σ3 (fl σ 23 D) := by unfold cpc; rw [y2.1 1 _ (by omega) (by omega)]
    refine fin37 σ4 τ3 k L' (by rw [Tx_poly_29, y1, Option.bind_some, bnd]) q5 (by omega) (by rw [xr]; exact xc) ⟨by rw [y4]; exact w1.1, by rw [y5]; exact w1.2.1, w1.2.2⟩ (w4.xf y2 (by omega)) (q8.tr w5 (Int.le_refl _) (by omega)) (by omega) (by have := w6.1; omega) (by rw [c]; have := w6.2; omega) w3.1.1
  · obtain ⟨c1, c2, c3, c4, c5, c6, c7, c7', c8, c9⟩ := id w1
    obtain ⟨y1, y2, y3, ⟨y4, y4'⟩, y5, y6, y7, y8, y9⟩ := id c1
    have ng3 := c4.1.1
    have size := y2.1.2.2.1
    have sn := c2.1.2.1
    have os : ob π3 s 10 := c2.1.1
    obtain ⟨at3, hat3⟩ : ∃ at3, fl τ3 2 0 = at3 := ⟨_, rfl⟩
    have s3 : fl σ3 222 50 = at3 := by rw [← y3]; exact hat3
    rw [hat3] at w5 q10
    have pos3 := y2.2.1
    rw [s3] at pos3
    have tk := c_takeN (N := N) (π := π3) (s := 125) N3 y2 (by rw [s3]; exact w5) (by rw [y4]; decide) (by decide)
    rw [s3] at tk
    have F73 : ∀ a : Int, 71 ≤ a → a ≤ 74 → el τ3 a d = el τ2 a d := fun a u1 u2 => c5.2.2.2 a d u1 u2 (by omega)
    have rc : rdK N 12 τ3 d = r_endPart_97 N τ3 d r 125 (bA τ3 at3) := r_close y2 (by rw [hat3]; omega) ⟨by omega, by omega⟩ ⟨by rw [F73 73 (by decide) (by decide)]; exact q9.2.1, by rw [F73 72 (by decide) (by decide)]; exact q9.2.2⟩ (by rw [hat3]) (Or.inr ⟨rfl, rfl⟩)
    have bb := bA_rg y2.1 at3
    have i1 : i32 (bA τ3 at3) := ⟨by omega, by omega⟩
    have rF : ∀ τ', rdK N 12 τ3 d = some τ' → RLp N 1 τ3 τ' := fun τ' e => RLp.one w3 ⟨by omega, by omega⟩ y4' ⟨by rw [F73 74 (by decide) (by decide)]; exact q9.1, by decide, by decide⟩ e
    have op3 : fl τ3 13 0 = op + 1 := by rw [c6]; exact q7
    have sop3 : fl σ3 184 1 = op + 1 := by rw [y5.1]; exact op3
    have wd := w1.words w2
    rw [hat3] at wd
    have rd3 : RDr r d τ τ3 := q8.tr c5 (Int.le_refl _) (by omega)
    have c9' := c9
    obtain ⟨g1', g2, g3, -⟩ := c9'
    rw [hat3] at g2 g3
    have lenI : ((L ++ sgs l).length : Int) = L.length + (sgs l).length := by rw [List.length_append]; omega
    have r32 : r < 32768 := by omega
    by_cases cb : bA τ3 at3 = 125
    · -- closed
      rw [if_pos cb] at tk
      have acl := tk.2 cb
      obtain ⟨σ4, hσ4⟩ : ∃ σ4, σ4 = sf (sf σ3 222 50 (at3 + 1)) 184 1 op := ⟨_, rfl⟩
      obtain ⟨τ4, hτ4⟩ : ∃ τ4, τ4 = sf (sf τ3 2 0 (at3 + 1)) 13 0 op := ⟨_, rfl⟩
      have f4 : ∀ (f : Nat) (i : Int), ¬ (f = 222 ∧ i = 50) → ¬ (f = 184 ∧ i = 1) → fl σ4 f i = fl σ3 f i := fun f i a b => by rw [hσ4, fl_sf, if_neg b, fl_sf, if_neg a]
      have e4 : ∀ a j, el σ4 a j = el σ3 a j := fun a j => by rw [hσ4]; rfl
      have xs4 : XS (XR Xo σ3 s) π3 σ4 τ4 D P (L ++ sgs l) Kn st cl := by
        rw [hσ4, hτ4]
        exact (c1.at (k := at3 + 1) (by rw [s3]; omega)).op ⟨by omega, by omega⟩
      have t4 : ∀ (f : Nat) (i : Int), f ≠ 2 → f ≠ 13 → fl τ4 f i = fl τ3 f i := fun f i a b => by rw [hτ4, fl_sfn _ _ _ _ b, fl_sfn _ _ _ _ a]
      have s4 : fl σ4 222 50 = at3 + 1 := by rw [hσ4, fl_sfn _ _ _ _ (by decide), fl_sfs]
      have rd4 : RDr r d τ τ4 := by rw [hτ4]; exact (rd3.sf 2 _ (by omega)).sf 13 _ (by omega)
      have ft4 : XFt (fl σ 23 D) π σ π3 σ4 := c4.st (fun f i a b => f4 f i (by omega) (by omega)) e4 (by omega)
      obtain ⟨z1, z2, z3, ⟨z4, z4'⟩, z5, z6, z7, z8, z9⟩ := id xs4
      obtain ⟨σ5, τ5, m1, m2, m3, m4, m5, m6, m7, m8⟩ := both_take (N := N) (π := π3) (s := 37) N3 z2 z3 z4 z4' (by decide)
      have cl4 : Tx_poly_29 N rP π3 σ3 s = grd (i32 (fl σ5 182 1)) (if (fl σ5 182 1) = 0 then Option.bind (Tx_number N π3 σ5 1 32) (fun r25 => Tx_poly_76 N rP π3 r25.1 s r25.2 s) else Tx_poly_76 N rP π3 σ5 s 1 s) := by
        have e2 : fl (sf σ3 222 50 (at3 + 1)) 184 1 - 1 = op := by rw [fl_sfn _ _ _ _ (by decide), sop3]; omega
        rw [Tx_poly_29, tk.1, Option.bind_some, e2, bnd, ← hσ4, m1, Option.bind_some]
      have rd5 : RDr r d τ τ5 := rd4.xf m4
      have e41 : fl τ5 41 0 = d + 1 := by rw [m4.1 41 0 (by decide) (by decide) (by decide) (by decide), t4 41 0 (by decide) (by decide)]; exact w3
      have e94 : el τ5 94 r = 27 := by rw [m4.2, hτ4]; exact c7'.1
      have r97 : rdK N 12 τ3 d = grd (i32 (fl τ5 11 0)) (if (fl τ5 11 0) = 0 then Option.bind (r_numberIn N τ5 1 32) (fun r31 => grd (inb r 32768) (r_endPart_167 N (se r31.1 92 r r31.2) r)) else r_endPart_167 N τ5 r) := by
        rw [rc, r_endPart_97, grd_t i1, grd_t (by decide), if_pos cb, grd_t (by exact ⟨by omega, by omega⟩), F73 72 (by decide) (by decide), q9.2.2, grd_t (by decide), if_pos rfl, hat3, op3, show op + 1 - 1 = op by omega, bnd, ← hτ4, m2, Option.bind_some]
      have r167 : ∀ τ' : St, el τ' 94 r = 27 → fl τ' 41 0 = d + 1 → r_endPart_167 N τ' r = some (sf (sf τ' 46 0 r) 41 0 d) := fun τ' a b => by
        rw [r_endPart_167, grd_t (by exact ⟨by omega, by omega⟩), a, grd_t (by decide), if_neg (by decide), r_endPart_198, r_endPart_199, r_finish', Option.bind_some, b, show d + 1 - 1 = d by omega]
      have k1 : ∀ (σ' : St), (∀ (f : Nat) (i : Int), ¬ (i = 50 ∧ (f = 222 ∨ f = 225)) → ¬ (i = 1 ∧ (f = 182 ∨ f = 183)) → fl σ' f i = fl σ4 f i) → cpc π3 σ' (fl σ 23 D) = cpc π3 σ3 (fl σ 23 D) := fun σ' hx => by
        unfold cpc; rw [hx 1 _ (by omega) (by omega), f4 1 _ (by omega) (by omega)]
      rcases m8 with m8 | ⟨n1, n2, n3, n4⟩
      · -- no %
        have i5 : i32 (fl σ5 182 1) ∧ fl σ5 182 1 ≠ 0 := by have := m8.1; have := m8.2.2; exact ⟨⟨by omega, by omega⟩, by omega⟩
        have i5' : i32 (fl τ5 11 0) ∧ fl τ5 11 0 ≠ 0 := by have := m8.2.2; exact ⟨⟨by omega, by omega⟩, by omega⟩
        have xr : XR Xo σ5 s = XR Xo σ3 s := XR.eq (fun f _ _ => by rw [m3.1 f s (by omega) (by omega), f4 f s (by omega) (by omega)])
        have g5 : ∀ (f : Nat) (i : Int), f ≠ 46 → f ≠ 41 → fl (sf (sf τ5 46 0 r) 41 0 d) f i = fl τ5 f i := fun f i a b => by rw [fl_sfn _ _ _ _ b, fl_sfn _ _ _ _ a]
        have rdx : RDr 0 0 τ5 (sf (sf τ5 46 0 r) 41 0 d) := ((RDr.rf _ _ τ5).sf 46 _ (by omega)).sf 41 _ (by omega)
        have xb5 : XB σ5 (sf (sf τ5 46 0 r) 41 0 d) st cl := m5.mv rdx ⟨rfl, rfl, fun _ => rfl⟩ ⟨m5.2.1.2.2.1, m5.2.1.2.2.2.1⟩
        refine finF σ5 (sf (sf τ5 46 0 r) 41 0 d) 1 (k + 1) (L ++ sgs l) ?_ (q5.tr (rF _ ?_)) (by omega) ?_ ⟨by rw [g5 11 0 (by decide) (by decide)]; exact m8.1, by rw [g5 12 0 (by decide) (by decide)]; exact m8.2.1, by rw [g5 11 0 (by decide) (by decide)]; exact m8.2.2⟩ (ft4.xf m3 (by omega)) ((rd5.sf 46 _ (by omega)).sf 41 _ (by omega)) (by omega) (by omega) (by rw [k1 σ5 m3.1]; omega)
        · rw [cl4, grd_t i5.1, if_neg i5.2, Tx_poly_76, grd_t os, grd_t i5.1, if_neg i5.2]
        · rw [r97, grd_t i5'.1, if_neg i5'.2, r167 τ5 e94 e41]
        · rw [xr]; exact xs4.xc.xf m3 (((RDr.rf 0 0 τ4).xf m4).tr rdx (Int.le_refl _) (Int.le_refl _)) xb5
      · -- the number
        obtain ⟨σ6, τ6, v, w, o1, o2, o3, o4, o5, o6, o7, o8, o9, o10, o11⟩ := both_num (N := N) (π := π3) (a := 1) (b := 32) N3 m5 m7 n1 n2 (by decide)
        have cl6 : Tx_poly_29 N rP π3 σ3 s = Tx_poly_76 N rP π3 σ6 s v s := by
          rw [cl4, n1, grd_t (by decide), if_pos rfl, o1, Option.bind_some]
        obtain ⟨τ7, hτ7⟩ : ∃ τ7, τ7 = sf (sf (se τ6 92 r w) 46 0 r) 41 0 d := ⟨_, rfl⟩
        have r7 : rdK N 12 τ3 d = some τ7 := by
          rw [r97, n2, grd_t (by decide), if_pos rfl, o2, Option.bind_some]
          simp only
          rw [grd_t (by exact ⟨by omega, by omega⟩), r167 _ (by rw [el_sen _ _ _ _ (by decide), o4.2]; exact e94) (by rw [fl_se, o4.1 41 0 (by decide) (by decide) (by decide) (by decide)]; exact e41), hτ7]
        have g7 : ∀ (f : Nat) (i : Int), f ≠ 46 → f ≠ 41 → fl τ7 f i = fl τ6 f i := fun f i a b => by rw [hτ7, fl_sfn _ _ _ _ b, fl_sfn _ _ _ _ a, fl_se]
        have rdx : RDr r d τ6 τ7 := by rw [hτ7]; exact (((RDr.rf _ _ τ6).sn 92 r w (by omega) (Int.le_refl _)).sf 46 _ (by omega)).sf 41 _ (by omega)
        have rd7 : RDr r d τ τ7 := (rd5.xf o4).tr rdx (Int.le_refl _) (Int.le_refl _)
        have xf46 : XFc σ4 σ6 := m3.tr o3
        have xr : XR Xo σ6 s = XR Xo σ3 s := XR.eq (fun f _ _ => by rw [xf46.1 f s (by omega) (by omega), f4 f s (by omega) (by omega)])
        have b6 := o5.2.1
        rcases o11 with o11 | ⟨p1, p2, p3, p4, p5, p6⟩
        · have i6 : i32 (fl σ6 182 1) ∧ fl σ6 182 1 ≠ 0 := by have := o11.1; have := o11.2.2; exact ⟨⟨by omega, by omega⟩, by omega⟩
          refine finF σ6 τ7 v (k + 1) (L ++ sgs l) ?_ (q5.tr (rF _ r7)) (by omega) ?_ ⟨by rw [g7 11 0 (by decide) (by decide)]; exact o11.1, by rw [g7 12 0 (by decide) (by decide)]; exact o11.2.1, by rw [g7 11 0 (by decide) (by decide)]; exact o11.2.2⟩ (ft4.xf xf46 (by omega)) rd7 (by omega) (by omega) (by rw [k1 σ6 xf46.1]; omega)
          · rw [cl6, Tx_poly_76, grd_t os, grd_t i6.1, if_neg i6.2]
          · rw [xr]
            exact xs4.xc.xf xf46 ((((RDr.rf r d τ4).xf m4).xf o4).tr rdx (Int.le_refl _) (Int.le_refl _)) (o5.mv rdx ⟨rfl, rfl, fun _ => rfl⟩ ⟨b6.2.2.1, b6.2.2.2.1⟩)
        · -- done
          obtain ⟨σ7, hσ7⟩ : ∃ σ7, σ7 = sf σ6 203 s v := ⟨_, rfl⟩
          have f7 : ∀ (f : Nat) (i : Int), ¬ (f = 203 ∧ i = s) → fl σ7 f i = fl σ6 f i := fun f i hx => by rw [hσ7, fl_sf, if_neg hx]
          have xs6 : XS (XR Xo σ3 s) π3 σ6 τ6 D P (L ++ sgs l) Kn st cl := by
            refine xs4.xf xf46 (m4.tr o4) ⟨?_, b6.2.2.2.1⟩ o7 ⟨p1, p2⟩
            omega
          have xs6' : XS (XR Xo σ3 s) π3 σ6 τ7 D P (L ++ sgs l) Kn st cl := xs6.rd rdx ⟨g7 2 0 (by decide) (by decide), g7 11 0 (by decide) (by decide), g7 13 0 (by decide) (by decide), g7 47 0 (by decide) (by decide), by rw [g7 16 0 (by decide) (by decide)]; exact xs6.2.2.2.2.2.2.2.2⟩
          have xr7 : XR Xo σ7 s = XR Xo σ3 s := by
            rw [← xr]; exact XR.eq (fun f f1 f2 => f7 f s (by omega))
          have fr7 : FRn (nn π) π3 σ6 π3 σ7 := by rw [hσ7]; exact (FRn.rf _ _ _).sf 203 v (by omega)
          have xs7 : XS (XR Xo σ7 s) π3 σ7 τ7 D P (L ++ sgs l) Kn st cl := by
            have b7 := xs6'.2.2.2.2.2.2.2.1
            refine xs6'.gw fr7 (by omega) ?_
            rw [xr7]
            exact b7.own (ext.rf _) (fun f i _ hx => f7 f i (fun e => hx (Or.inr (Or.inl e.2)))) (fun a j _ _ => by rw [hσ7]; rfl) (fun x hx => ⟨Or.inl hx, b7.2.2.2.2.2.2.2.1 x hx⟩) (by omega)
          have rw6 : RWs π3 σ6 (nn π) s 6 at0 0 (opz l) lw := c2.cg (ext.rf _) (fun f _ _ => by rw [xf46.1 f s (by omega) (by omega), f4 f s (by omega) (by omega)]) (fun a j _ => by rw [xf46.2, e4])
          have t613 : fl τ6 13 0 = op := by rw [o4.1 13 0 (by decide) (by decide) (by decide) (by decide), m4.1 13 0 (by decide) (by decide) (by decide) (by decide), hτ4, fl_sfs]
          have t616 : fl τ6 16 0 = fl τ3 16 0 := by rw [o4.1 16 0 (by decide) (by decide) (by decide) (by decide), m4.1 16 0 (by decide) (by decide) (by decide) (by decide), t4 16 0 (by decide) (by decide)]
          obtain ⟨π8, σ8, u1, u2, u3⟩ := row_end (N := N) (K := 7) (a := v) (b := v) (σ4 := σ7) (τ5 := τ7) hN h hop hat hr hL hM w1 w2 q7 xs7 (by rw [hσ7]; exact rw6.b3 v) (fun f i a b c => by rw [f7 f i (by omega), xf46.1 f i (by omega) (by omega), f4 f i (by omega) (by omega)]) (fun a j => by rw [hσ7]; show el σ6 a j = _; rw [xf46.2, e4]) rd7 ⟨by rw [g7 16 0 (by decide) (by decide)]; exact t616, by rw [hτ7, fl_sfs], by rw [hτ7, fl_sfn _ _ _ _ (by decide), fl_sfs], by rw [g7 13 0 (by decide) (by decide)]; exact t613, by rw [g7 2 0 (by decide) (by decide), hat3]; omega⟩ (fun a i _ _ hx => by rw [hτ7, el_sf, el_sf, el_se, if_neg hx, o4.2, m4.2, hτ4]; rfl) (by rw [hτ7, el_sf, el_sf, el_ses, p3]) (Or.inr ⟨rfl, rfl, ⟨p4, p5⟩, rfl⟩)
          refine ⟨π8, σ8, τ7, _, k + 1, ?_, q5.tr (rF τ7 r7), u3, fun _ => ?_, by rw [hat]; omega⟩
          · have e221 : fl σ6 221 50 = D := by rw [xf46.1 221 50 (by omega) (by omega), f4 221 50 (by omega) (by omega)]; exact y7
            rw [cls, cl6, Tx_poly_76, grd_t os, p1, grd_t (by decide), if_pos rfl, bnd, ← hσ7, e221, u1, Option.bind_some, grd_t u2, Tx_poly_97]
          · rw [g7 2 0 (by decide) (by decide), hat]; have := q10 y4'; omega
    · -- not closed
      rw [if_neg cb] at tk
      obtain ⟨σ4, hσ4⟩ : ∃ σ4, σ4 = flS σ3 1 at3 := ⟨_, rfl⟩
      obtain ⟨τ4, hτ4⟩ : ∃ τ4, τ4 = sf (sf τ3 11 0 1) 12 0 at3 := ⟨_, rfl⟩
      rw [← hσ4] at tk
      have z0 := flS_0 (x := 1) (y := at3) y4
      have z2 := flS_222 σ3 1 at3
      have xf : XFc σ3 σ4 := by rw [hσ4]; exact flS_xf (XFc.rf σ3) _ _
      have xr : XFr τ3 τ4 := by rw [hτ4]; exact ⟨fun f i _ _ a b => by rw [fl_sfn _ _ _ _ b, fl_sfn _ _ _ _ a], fun _ _ => rfl⟩
      have t11 : fl τ4 11 0 = 1 := by rw [hτ4, fl_sfn _ _ _ _ (by decide), fl_sfs]
      have t12 : fl τ4 12 0 = at3 := by rw [hτ4, fl_sfs]
      have xb4 : XB σ4 τ4 st cl := y2.xf xf xr (by rw [hσ4, z2.1, s3]; omega) (by rw [hσ4, z2.1, s3]; omega)
      have xc := c1.xc.xf xf ((RDr.rf 0 0 τ3).xf xr) xb4
      have xR : XR Xo σ4 s = XR Xo σ3 s := XR.eq (fun f _ _ => xf.1 f s (by omega) (by omega))
      have e182 : fl σ4 182 1 = 1 := by rw [hσ4]; exact z0.1
      have c : cpc π3 σ4 (fl σ 23 D) = cpc π3 σ3 (fl σ 23 D) := by unfold cpc; rw [xf.1 1 _ (by omega) (by omega)]
      refine fin37 σ4 τ4 (k + 1) (L ++ sgs l) (by rw [Tx_poly_29, tk.1, Option.bind_some, bnd]) (q5.tr (rF τ4 ?_)) (by omega) (by rw [xR]; exact xc) ⟨by rw [e182, t11], by rw [hσ4, z0.2, t12], by rw [t11]; decide⟩ (c4.xf xf (by omega)) (rd3.xf xr) (by omega) (by omega) (by rw [c]; omega) os
      rw [rc, r_endPart_97, grd_t i1, grd_t (by decide), if_neg cb, hat3, r_fail0 y4', Option.bind_some, hτ4]
end PO
