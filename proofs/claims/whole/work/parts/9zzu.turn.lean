/-! a part that opens a sign: too deep; a turn -/
section TU
variable {N : Nat} {Xo : Int → Prop}
theorem c_part105 {π : Sh} {σ τ : St} {st cl b : Int} {rP : Sh → St → Option (Sh × St × Int)} (h : XB σ τ st cl) (hb : bA τ (fl σ 222 50) = b) (hk : b = 91 ∨ b = 60 ∨ b = 123) : Tx_part N rP π σ = Tx_part_105 N rP π σ b := by
  have i1 : i32 b := by rcases hk with q | q | q <;> rw [q] <;> decide
  have nl : ¬ isLt b := by unfold isLt; omega
  have nd : ¬ isDg b := by unfold isDg; omega
  rw [Tx_part, c_here h, Option.bind_some, hb, c_isLetter i1, if_neg nl, Option.bind_some, grd_t (by decide), if_pos rfl, c_isDigit i1, if_neg nd, Option.bind_some, grd_t (by decide), if_pos rfl, grd_t i1]
  simp only
  rw [if_neg (by omega), if_neg (by omega)]
  rcases hk with q | q | q
  · rw [if_pos q]
  · rw [if_neg (by omega), if_pos q]
  · rw [if_neg (by omega), if_neg (by omega), if_pos q]
/-- too many signs are open -/
theorem pt_deep {D P st cl d b : Int} {L : List Stq} {Kn : List Int} {π : Sh} {σ τ : St} {rP : Sh → St → Option (Sh × St × Int)} (h : XS Xo π σ τ D P L Kn st cl) (hop : fl τ 13 0 = 20) (hF : FR12 τ d 12 0) (hb : bA τ (fl σ 222 50) = b) (hk : b = 91 ∨ b = 60 ∨ b = 123) : ∃ π' σ' τ' o, Tx_part N rP π σ = some (π', σ', o) ∧ RLp N 1 τ τ' ∧ PTo Xo N D P L Kn st cl d π σ τ π' σ' τ' o ∧ fl τ' 11 0 ≠ 0 := by
  obtain ⟨x1, x2, x3, ⟨x4, x4'⟩, x5, x6, x7, x8, x9⟩ := id h
  obtain ⟨a0, ⟨b1, b2, b3, b4, b5⟩, e0, d0⟩ := id x2
  have size := a0.2.2.1
  obtain ⟨F1, F2, F3, F4, F5⟩ := id hF
  have n56 := x1.1
  obtain ⟨dd1, dd2, -⟩ := x8.b
  have i1 : i32 b := by rcases hk with q | q | q <;> rw [q] <;> decide
  have nl : ¬ isLt b := by unfold isLt; omega
  have nd : ¬ isDg b := by unfold isDg; omega
  obtain ⟨at0, hat0⟩ : ∃ at0, at0 = fl σ 222 50 := ⟨_, rfl⟩
  have t2 : fl τ 2 0 = at0 := by rw [x3, hat0]
  obtain ⟨σ1, hσ1⟩ : ∃ σ1, σ1 = flS σ 4 at0 := ⟨_, rfl⟩
  obtain ⟨τ1, hτ1⟩ : ∃ τ1, τ1 = sf (sf τ 11 0 4) 12 0 at0 := ⟨_, rfl⟩
  have z0 := flS_0 (x := 4) (y := at0) x4
  have z2 := flS_222 σ 4 at0
  have xf : XFc σ σ1 := by rw [hσ1]; exact flS_xf (XFc.rf σ) _ _
  have xr : XFr τ τ1 := by rw [hτ1]; exact ⟨fun f i _ _ a b => by rw [fl_sfn _ _ _ _ b, fl_sfn _ _ _ _ a], fun _ _ => rfl⟩
  have t11 : fl τ1 11 0 = 4 := by rw [hτ1, fl_sfn _ _ _ _ (by decide), fl_sfs]
  have t12 : fl τ1 12 0 = at0 := by rw [hτ1, fl_sfs]
  have cl1 : Tx_part N rP π σ = some (π, σ1, 0) := by
    rw [c_part105 x2 hb hk, Tx_part_105, Sc_opens, x5.1, hop, grd_t (by decide), if_neg (by decide), c_fail (by rw [x4]; decide), Option.bind_some, Option.bind_some, ← hat0, ← hσ1]
    simp only
    rw [grd_t (by decide), if_pos trivial]
  have rrd : rdK N 12 τ d = some τ1 := by
    have e : rdK N 12 τ d = r_readPart N τ d := by unfold rdK; simp
    have e255 : r_readPart_255 N τ d b at0 = some τ1 := by
      rw [r_readPart_255, r_isOpen, hop, grd_t (by decide), if_pos rfl, r_fail0 x4', Option.bind_some, Option.bind_some, ← hτ1]
      simp only
      rw [grd_t (by decide), if_pos trivial]
    rw [e, r_readPart, t2, rr_byteAt a0 (by exact ⟨by omega, by omega⟩), Option.bind_some, grd_t (by exact ⟨F2.1, by omega⟩)]
    simp only
    rw [F4, grd_t (by decide), if_neg (by decide), show bA τ at0 = b by rw [hat0]; exact hb, rr_isLow i1, if_neg nl, Option.bind_some, grd_t (by decide), if_pos rfl, rr_isDigit i1, if_neg nd, Option.bind_some, grd_t (by decide), if_pos rfl, grd_t i1, if_neg (by omega), if_neg (by omega), t2, e255]
    rcases hk with q | q | q
    · rw [if_pos q]
    · rw [if_neg (by omega), if_pos q]
    · rw [if_neg (by omega), if_neg (by omega), if_pos q]
  have xb1 : XB σ1 τ1 st cl := x2.xf xf xr (by rw [hσ1, z2.1]; omega) (by rw [hσ1, z2.1]; omega)
  have cp : cpc π σ1 (fl σ 23 D) = cpc π σ (fl σ 23 D) := by unfold cpc; rw [xf.1 1 _ (by omega) (by omega)]
  refine ⟨π, σ1, τ1, 0, cl1, RLp.one F1 ⟨by omega, by omega⟩ x4' ⟨F3, by decide, by decide⟩ rrd, ⟨(XFt.rf _ π σ).xf xf (by omega), (RDr.rf _ _ τ).xf xr, Or.inl ⟨⟨by rw [hσ1, z0.1, t11], by rw [hσ1, z0.2, t12], by rw [t11]; omega⟩, ⟨L, h.xc.xf xf ((RDr.rf 0 0 τ).xf xr) xb1, by omega⟩, by omega, by rw [cp]; omega⟩⟩, by rw [t11]; decide⟩
/-- the reference at the end of a row -/
theorem r_close {σ τ : St} {st cl d r b c b' : Int} (h : XB σ τ st cl) (h2 : 0 ≤ fl τ 2 0 ∧ fl τ 2 0 ≤ cl) (hd : 0 ≤ d ∧ d < 600) (hF : el τ 73 d = r ∧ el τ 72 d = b) (hb : bA τ (fl τ 2 0) = b') (hk : (b = 60 ∧ c = 62) ∨ (b = 123 ∧ c = 125)) : rdK N 12 τ d = r_endPart_97 N τ d r c b' := by
  have a0 := h.1
  have size := a0.2.2.1
  have b5 := h.2.1.2.2.2.2
  have i1 : i32 b := by rcases hk with q | q <;> rw [q.1] <;> decide
  have e : rdK N 12 τ d = r_readPart N τ d := by unfold rdK; simp
  rw [e, r_readPart, rr_byteAt a0 (by exact ⟨by omega, by omega⟩), Option.bind_some, grd_t (by exact ⟨by omega, by omega⟩)]
  simp only
  rw [hF.2, grd_t i1, if_pos (by omega), hb]
  have e1 : r_endPart N τ d b' = r_endPart_97 N τ d r c b' := by
    rw [r_endPart, grd_t (by exact ⟨by omega, by omega⟩), bnd, hF.1, hF.2, grd_t i1, if_neg (by omega), r_endPart_62, grd_t (by exact ⟨by omega, by omega⟩), hF.2, grd_t i1, if_neg (by omega)]
    rcases hk with q | q
    · rw [if_pos q.1, q.2]
    · rw [if_neg (by omega), q.2]
  rw [e1]
  cases r_endPart_97 N τ d r c b' <;> rfl
set_option maxHeartbeats 4000000 in
/-- a turn -/
theorem pt_turn {D P st cl d op : Int} {L : List Stq} {Kn : List Int} {π : Sh} {σ τ : St} {rP : Sh → St → Option (Sh × St × Int)} (hN : 30000001 ≤ N) (h : XS Xo π σ τ D P L Kn st cl) (hop : fl τ 13 0 = op) (hop' : op < 20) (hPT : PTH N D P Kn st cl rP (op + 1)) (hF : FR12 τ d 12 0) (hd : d ≤ 10 * op + 20) (hL : (L.length : Int) + 2 * (cl + 1 - fl τ 2 0) + 4 * (21 - op) ≤ 19000) (hM : fl τ 16 0 + 3 * (cl + 1 - fl τ 2 0) + 8 * (21 - op) ≤ 32768) (hb : bA τ (fl τ 2 0) = 60) : ∃ π' σ' τ' o k, Tx_part N rP π σ = some (π', σ', o) ∧ RLp N k τ τ' ∧ PTo Xo N D P L Kn st cl d π σ τ π' σ' τ' o ∧ (fl τ' 11 0 = 0 → (k : Int) + 4 ≤ 8 * (fl τ' 2 0 - fl τ 2 0)) ∧ (k : Int) ≤ 8 * (cl + 1 - fl τ 2 0) + 8 * (21 - op) := by
  obtain ⟨x1, x2, x3, ⟨x4, x4'⟩, x5, x6, x7, x8, x9⟩ := id h
  have n56 := x1.1
  have N3 : 3000 ≤ N := by omega
  obtain ⟨dd1, dd2, dd3, dd4, dd5⟩ := x8.b
  obtain ⟨at0, hat⟩ : ∃ at0, fl τ 2 0 = at0 := ⟨_, rfl⟩
  obtain ⟨r, hr⟩ : ∃ r, fl τ 16 0 = r := ⟨_, rfl⟩
  rw [hat] at hL hM hb
  rw [hr] at hM
  have s222 : fl σ 222 50 = at0 := by rw [← x3]; exact hat
  rw [hop] at x5
  obtain ⟨F1, F2, F3, F4, F5⟩ := id hF
  obtain ⟨π1, σ1, τ2, π3, σ3, τ3, k, q1, q2, q3, q4, q5, q6, q7, q8, q9, q10, q11, q12⟩ := row_open (N := N) (kd := 5) (kR := 26) hN h hop ⟨x5.2.1, hop'⟩ hPT hF hd hat hr hb (Or.inl ⟨rfl, rfl, rfl⟩) hL hM
  have cls : Tx_part N rP π σ = Tx_turn_28 N rP π3 σ3 (nn π) := by
    have fz : fl (zO (sf σ 184 1 (op + 1)) (nn π) dfl) 222 50 = at0 := by rw [fl_zO, if_neg (by omega), fl_sfn _ _ _ _ (by decide)]; exact s222
    rw [c_part105 (b := 60) x2 (by rw [s222]; exact hb) (by decide), Tx_part_105, Sc_opens, x5.1, grd_t (by exact ⟨by omega, by omega⟩), if_pos hop', Option.bind_some]
    simp only
    rw [grd_t (by decide), if_neg (by decide), grd_t (by decide), if_neg (by decide), if_pos trivial, Tx_turn, Tx_turn_3, fz, q1, Option.bind_some, grd_t q2, Tx_turn_12, bnd, q3, q4, Option.bind_some]
    simp only
    cases Tx_turn_28 N rP π3 σ3 (nn π) <;> rfl
  rcases q6 with ⟨w1, ⟨L', w2, w2'⟩, ⟨ops, lw, w3⟩, w4, w5, w6⟩ | ⟨l, lw, w1, w2, w3, w4, w5⟩
  · -- a fault
    have n182 : i32 (fl σ3 182 1) ∧ fl σ3 182 1 ≠ 0 := by
      have := w1.1; have := w1.2.2
      exact ⟨⟨by omega, by omega⟩, by omega⟩
    obtain ⟨σ4, y1, y2, y3, y4, y5⟩ := x_tak_any (N := N) (π := π3) (s := 62) N3 w2.2.1 n182.1 (by decide) n182.2
    have xc := ((w2.un).xf y2 (RDr.rf 0 0 τ3) y3).op (fl σ4 184 1 - 1)
    have f5 : ∀ (f : Nat) (i : Int), ¬ (f = 184 ∧ i = 1) → fl (sf σ4 184 1 (fl σ4 184 1 - 1)) f i = fl σ4 f i := fun f i hx => by rw [fl_sf, if_neg hx]
    rw [q7] at w6
    refine ⟨π3, sf σ4 184 1 (fl σ4 184 1 - 1), τ3, 0, k, ?_, q5, ⟨(w4.xf y2 (by omega)).st (fun f i a b => f5 f i (by omega)) (fun _ _ => rfl) (by omega), by rw [hr]; exact q8.tr w5 (Int.le_refl _) (by omega), Or.inl ⟨⟨by rw [f5 182 1 (by omega), y4]; exact w1.1, by rw [f5 183 1 (by omega), y5]; exact w1.2.1, w1.2.2⟩, ⟨L', xc, by rw [hat]; omega⟩, ?_⟩⟩, fun e => by have := w1.2.2; omega, by rw [hat]; omega⟩
    · rw [cls, Tx_turn_28, y1, Option.bind_some, grd_t (by rw [y4]; exact n182.1), if_neg (by rw [y4]; exact n182.2)]
    · have c : cpc π3 (sf σ4 184 1 (fl σ4 184 1 - 1)) (fl σ 23 D) = cpc π3 σ3 (fl σ 23 D) := by unfold cpc; rw [f5 1 _ (by omega), y2.1 1 _ (by omega) (by omega)]
      rw [hat, hop]
      exact ⟨by have := w6.1; omega, by rw [c]; have := w6.2; omega⟩
  · obtain ⟨c1, c2, c3, c4, c5, c6, c7, c7', c8, c9⟩ := id w1
    obtain ⟨y1, y2, y3, ⟨y4, y4'⟩, y5, y6, y7, y8, y9⟩ := id c1
    have ng3 := c4.1.1
    have size := y2.1.2.2.1
    have sn := c2.1.2.1
    obtain ⟨at3, hat3⟩ : ∃ at3, fl τ3 2 0 = at3 := ⟨_, rfl⟩
    have s3 : fl σ3 222 50 = at3 := by rw [← y3]; exact hat3
    rw [hat3] at w5 q10
    have pos3 := y2.2.1
    rw [s3] at pos3
    have tk := c_takeN (N := N) (π := π3) (s := 62) N3 y2 (by rw [s3]; exact w5) (by rw [y4]; decide) (by decide)
    rw [s3] at tk
    have F73 : ∀ a : Int, 71 ≤ a → a ≤ 74 → el τ3 a d = el τ2 a d := fun a u1 u2 => c5.2.2.2 a d u1 u2 (by omega)
    have rc : rdK N 12 τ3 d = r_endPart_97 N τ3 d r 62 (bA τ3 at3) := r_close y2 (by rw [hat3]; omega) ⟨by omega, by omega⟩ ⟨by rw [F73 73 (by decide) (by decide)]; exact q9.2.1, by rw [F73 72 (by decide) (by decide)]; exact q9.2.2⟩ (by rw [hat3]) (Or.inl ⟨rfl, rfl⟩)
    have bb := bA_rg y2.1 at3
    have i1 : i32 (bA τ3 at3) := ⟨by omega, by omega⟩
    have rF : ∀ τ', rdK N 12 τ3 d = some τ' → RLp N 1 τ3 τ' := fun τ' e => RLp.one w3 ⟨by omega, by omega⟩ y4' ⟨by rw [F73 74 (by decide) (by decide)]; exact q9.1, by decide, by decide⟩ e
    have op3 : fl τ3 13 0 = op + 1 := by rw [c6]; exact q7
    have sop3 : fl σ3 184 1 = op + 1 := by rw [y5.1]; exact op3
    have wd := w1.words w2
    rw [hat3] at wd
    by_cases cb : bA τ3 at3 = 62
    · -- closed
      rw [if_pos cb] at tk
      have acl := tk.2 cb
      obtain ⟨σ4, hσ4⟩ : ∃ σ4, σ4 = sf (sf σ3 222 50 (at3 + 1)) 184 1 op := ⟨_, rfl⟩
      obtain ⟨τ4, hτ4⟩ : ∃ τ4, τ4 = sf (sf τ3 2 0 (at3 + 1)) 13 0 op := ⟨_, rfl⟩
      obtain ⟨τ5, hτ5⟩ : ∃ τ5, τ5 = sf (sf τ4 46 0 r) 41 0 d := ⟨_, rfl⟩
      have f4 : ∀ (f : Nat) (i : Int), ¬ (f = 222 ∧ i = 50) → ¬ (f = 184 ∧ i = 1) → fl σ4 f i = fl σ3 f i := fun f i a b => by rw [hσ4, fl_sf, if_neg b, fl_sf, if_neg a]
      have e4 : ∀ a j, el σ4 a j = el σ3 a j := fun a j => by rw [hσ4]; rfl
      have xs4 : XS (XR Xo σ3 (nn π)) π3 σ4 τ4 D P (L ++ sgs l) Kn st cl := by
        rw [hσ4, hτ4]
        exact (c1.at (k := at3 + 1) (by rw [s3]; omega)).op ⟨by omega, by omega⟩
      have t5 : ∀ (f : Nat) (i : Int), f ≠ 46 → f ≠ 41 → fl τ5 f i = fl τ4 f i := fun f i a b => by rw [hτ5, fl_sfn _ _ _ _ b, fl_sfn _ _ _ _ a]
      have t4 : ∀ (f : Nat) (i : Int), f ≠ 2 → f ≠ 13 → fl τ4 f i = fl τ3 f i := fun f i a b => by rw [hτ4, fl_sfn _ _ _ _ b, fl_sfn _ _ _ _ a]
      have xs5 : XS (XR Xo σ4 (nn π)) π3 σ4 τ5 D P (L ++ sgs l) Kn st cl := by
        rw [XR.eq (σ := σ3) (fun f _ _ => f4 f _ (by omega) (by omega))]
        refine xs4.rd (lo := 0) (d := 0) (by rw [hτ5]; exact ((RDr.rf _ _ τ4).sf 46 _ (by omega)).sf 41 _ (by omega)) ⟨t5 2 0 (by decide) (by decide), t5 11 0 (by decide) (by decide), t5 13 0 (by decide) (by decide), t5 47 0 (by decide) (by decide), by rw [t5 16 0 (by decide) (by decide)]; exact xs4.2.2.2.2.2.2.2.2⟩
      have rd5 : RDr r d τ τ5 := by
        rw [hτ5, hτ4]
        exact ((((q8.tr c5 (Int.le_refl _) (by omega)).sf 2 _ (by omega)).sf 13 _ (by omega)).sf 46 _ (by omega)).sf 41 _ (by omega)
      have f52 : fl τ5 2 0 = at3 + 1 := by rw [t5 2 0 (by decide) (by decide), hτ4, fl_sfn _ _ _ _ (by decide), fl_sfs]
      obtain ⟨π5, σ5, u1, u2, u3⟩ := row_end (N := N) (K := 6) (a := 0) (b := 0) (σ4 := σ4) (τ5 := τ5) hN h hop hat hr hL hM w1 w2 q7 xs5 (c2.cg (ext.rf _) (fun f _ _ => f4 f _ (by omega) (by omega)) (fun a j _ => e4 a j)) (fun f i a b c => f4 f i (by omega) (by omega)) e4 rd5 ⟨by rw [t5 16 0 (by decide) (by decide), t4 16 0 (by decide) (by decide)], by rw [hτ5, fl_sfs], by rw [hτ5, fl_sfn _ _ _ _ (by decide), fl_sfs], by rw [t5 13 0 (by decide) (by decide), hτ4, fl_sfs], by rw [hat3, f52]; exact Int.le_refl _⟩ (fun a i _ _ _ => by rw [hτ5, hτ4]; rfl) (by rw [hτ5, hτ4]; exact c7'.2.2) (Or.inl ⟨rfl, rfl⟩)
      refine ⟨π5, σ5, τ5, _, k + 1, ?_, q5.tr (rF τ5 ?_), u3, fun _ => ?_, by rw [hat]; omega⟩
      · have e1 : fl (sf σ3 222 50 (at3 + 1)) 182 1 = 0 := by rw [fl_sfn _ _ _ _ (by decide)]; exact y4
        have e2 : fl (sf σ3 222 50 (at3 + 1)) 184 1 - 1 = op := by rw [fl_sfn _ _ _ _ (by decide), sop3]; omega
        have e3 : fl (sf σ3 222 50 (at3 + 1)) 221 50 = D := by rw [fl_sfn _ _ _ _ (by decide)]; exact y7
        rw [cls, Tx_turn_28, tk.1, Option.bind_some, e1, grd_t (by decide), if_pos rfl, e2, e3, bnd, ← hσ4, u1, Option.bind_some, grd_t u2, Tx_turn_65]
      · rw [rc, r_endPart_97, grd_t i1, grd_t (by decide), if_pos cb, grd_t (by exact ⟨by omega, by omega⟩), F73 72 (by decide) (by decide), q9.2.2, grd_t (by decide), if_neg (by decide), hat3, op3, show op + 1 - 1 = op by omega, ← hτ4, r_endPart_167, grd_t (by exact ⟨by omega, by omega⟩), show el τ4 94 r = 26 by rw [hτ4]; exact c7'.1, grd_t (by decide), if_neg (by decide), r_endPart_198, r_endPart_199, r_finish', Option.bind_some, t4 41 0 (by decide) (by decide), w3, show d + 1 - 1 = d by omega, ← hτ5]
      · rw [f52, hat]; have := q10 y4'; omega
    · -- not closed
      rw [if_neg cb] at tk
      obtain ⟨σ4, hσ4⟩ : ∃ σ4, σ4 = flS σ3 1 at3 := ⟨_, rfl⟩
      obtain ⟨τ4, hτ4⟩ : ∃ τ4, τ4 = sf (sf τ3 11 0 1) 12 0 at3 := ⟨_, rfl⟩
      rw [← hσ4] at tk
      have z0 := flS_0 (x := 1) (y := at3) y4
      have z2 := flS_222 σ3 1 at3
      have xf : XFc σ3 σ4 := by rw [hσ4]; exact flS_xf (XFc.rf σ3) _ _
      have xr : XFr τ3 τ4 := by rw [hτ4]; exact ⟨fun f i _ _ a b => by rw [fl_sfn _ _ _ _ b, fl_sfn _ _ _ _ a], fun _ _ => rfl⟩
      have t11 : fl τ4 11 0 = 1 := by rw [hτ4, fl_sfn _ _ _ _ (by decide), fl_sfs]
      have t12 : fl τ4 12 0 = at3 := by rw [hτ4, fl_sfs]
      have xb4 : XB σ4 τ4 st cl := y2.xf xf xr (by rw [hσ4, z2.1, s3]; omega) (by rw [hσ4, z2.1, s3]; omega)
      have xc := ((c1.xc.un).xf xf ((RDr.rf 0 0 τ3).xf xr) xb4).op (fl σ4 184 1 - 1)
      have f5 : ∀ (f : Nat) (i : Int), ¬ (f = 184 ∧ i = 1) → fl (sf σ4 184 1 (fl σ4 184 1 - 1)) f i = fl σ4 f i := fun f i hx => by rw [fl_sf, if_neg hx]
      have e182 : fl σ4 182 1 = 1 := by rw [hσ4]; exact z0.1
      have c9' := c9
      obtain ⟨g1', g2, g3, -⟩ := c9'
      rw [hat3] at g3
      refine ⟨π3, sf σ4 184 1 (fl σ4 184 1 - 1), τ4, 0, k + 1, ?_, q5.tr (rF τ4 ?_), ⟨(c4.xf xf (by omega)).st (fun f i a b => f5 f i (by omega)) (fun _ _ => rfl) (by omega), by rw [hr]; exact (q8.tr c5 (Int.le_refl _) (by omega)).xf xr, Or.inl ⟨⟨by rw [f5 182 1 (by omega), e182, t11], by rw [f5 183 1 (by omega), hσ4, z0.2, t12], by rw [t11]; decide⟩, ⟨L ++ sgs l, xc, by rw [hat, List.length_append]; omega⟩, ?_⟩⟩, fun e => by rw [t11] at e; omega, by rw [hat]; omega⟩
      · rw [cls, Tx_turn_28, tk.1, Option.bind_some, e182, grd_t (by decide), if_neg (by decide)]
      · rw [rc, r_endPart_97, grd_t i1, grd_t (by decide), if_neg cb, hat3, r_fail0 y4', Option.bind_some, hτ4]
      · have c : cpc π3 (sf σ4 184 1 (fl σ4 184 1 - 1)) (fl σ 23 D) = cpc π3 σ3 (fl σ 23 D) := by unfold cpc; rw [f5 1 _ (by omega), xf.1 1 _ (by omega) (by omega)]
        rw [hat, hop]
        exact ⟨by omega, by rw [c]; omega⟩
end TU
