/-! expressions: an expression in brackets as an argument -/
section AB
variable {N : Nat} {b : Bse} {Xo : Int → Prop} {dl : List (Int × Int)} {rA rF : Sh → St → Option (Sh × St × Int)}
theorem XQ.mono {π : Sh} {σ τ : St} {l k l' k' : Int} (h : XQ b Xo π σ τ l k) (h1 : l ≤ l') (h2 : k ≤ k') : XQ b Xo π σ τ l' k' := by
  obtain ⟨a1, a2, a3, a4, L, Kn, a5, a6, a7⟩ := h
  exact ⟨a1, a2, a3, a4, L, Kn, a5, by omega, by omega⟩
/-- fields of the scanner change after a fault -/
theorem XQ.er {π : Sh} {σ σ' τ : St} {l k : Int} (h : XQ b Xo π σ τ l k) (e : ERf σ σ') (h1 : fl σ' 182 1 = fl σ 182 1 ∧ fl σ' 183 1 = fl σ 183 1) (ht : ∃ τt, TKr σ' τt) : XQ b Xo π σ' τ l k := by
  obtain ⟨a1, a2, a3, a4, L, Kn, a5, a6, a7⟩ := h
  exact ⟨a1, ht, ⟨by rw [h1.1]; exact a3.1, by rw [h1.2]; exact a3.2.1, a3.2.2⟩, by rw [e.1 144 44 (by omega) (by omega) (by omega)]; exact a4, L, Kn, a5.er (TX.rf _) e, a6, a7⟩
theorem XQ.o {π : Sh} {σ τ : St} {l k v : Int} (h : XQ b Xo π σ τ l k) : XQ b Xo π (sf σ 184 1 v) τ l k := by
  obtain ⟨τt, ht⟩ := h.2.1
  exact h.er (ERf.sf _ 184 1 v (by omega)) ⟨by rw [fl_sfn _ _ _ _ (by decide)], by rw [fl_sfn _ _ _ _ (by decide)]⟩ ⟨τt, ht.cg (fun g hg => by rw [fl_sfn _ _ _ _ (by omega)]) (fun _ => rfl) (fun _ _ => rfl) (fun _ => rfl)⟩
theorem XQ.f {π : Sh} {σ τ : St} {l k : Int} (h : XQ b Xo π σ τ l k) : fl σ 182 1 ≠ 0 ∧ i32 (fl σ 182 1) := by
  have a := h.2.2.1
  have := a.1
  have := a.2.2
  exact ⟨by omega, ⟨by omega, by omega⟩⟩
/-- a sign is expected after a fault -/
theorem XQ.exp {π : Sh} {σ τ : St} {l k c : Int} (hN : 3000 ≤ N) (h : XQ b Xo π σ τ l k) (hc : i32 c ∧ c ≠ 5) : ∃ σ', Rd_expect N π σ c = some σ' ∧ ERf σ σ' ∧ XQ b Xo π σ' τ l k := by
  obtain ⟨τt, ht⟩ := h.2.1
  have fz := h.f
  rw [Rd_expect, grd_t ht.kd.1, grd_t hc.1]
  by_cases e : fl σ 185 1 = c
  · obtain ⟨σ', τ', q1, q2, q3, q4, q5, -⟩ := both_advance (N := N) (π := π) hN ht (by omega)
    rw [if_pos e, q1, Option.bind_some]
    exact ⟨σ', rfl, ERf.sc q3, h.er (ERf.sc q3) ⟨q3.1 182 1 (by omega), q3.1 183 1 (by omega)⟩ ⟨τ', q5⟩⟩
  · rw [if_neg e, c_fail fz.2, flS, if_neg fz.1, Option.bind_some]
    exact ⟨σ, rfl, ERf.rf _, h⟩
/-- a fault is told -/
theorem XEs.q {π : Sh} {σ τ : St} {L : List Stq} {Kn : List Int} {f p : Int} (h : XEs b Xo π σ τ L Kn) (hf : 1 ≤ f ∧ f ≤ 4) : XQ b Xo π (sf (sf σ 182 1 f) 183 1 p) (sf (sf τ 11 0 f) 12 0 p) L.length Kn.length := by
  obtain ⟨h1, h2, h3, h4, h5, h6, h7, h8, h9, h10⟩ := h
  have kk : ERf σ (sf (sf σ 182 1 f) 183 1 p) := (ERf.sf _ 182 1 f (by omega)).tr (ERf.sf _ 183 1 p (by omega))
  refine ⟨h1, ⟨τ, h2.cg (fun g hg => by rw [fl_sfn _ _ _ _ (by omega), fl_sfn _ _ _ _ (by omega)]) (fun j => kk.2 2 j) (fun _ _ => rfl) (fun _ => rfl)⟩, ⟨?_, ?_, ?_⟩, ?_, L, Kn, h6.er (TX.rd (((RDr.rf 0 0 τ).sf 11 f (by omega)).sf 12 p (by omega))) kk, Int.le_refl _, Int.le_refl _⟩
  · rw [fl_sfn _ _ _ _ (by decide), fl_sfs, fl_sfn _ _ _ _ (by decide), fl_sfs]
  · rw [fl_sfs, fl_sfs]
  · rw [fl_sfn _ _ _ _ (by decide), fl_sfs]; exact hf
  · rw [fl_sf, if_neg (by omega), fl_sf, if_neg (by omega)]; exact h5
theorem XQ.lt {π : Sh} {σ τ : St} {l k : Int} (h : XQ b Xo π σ τ l k) (hx : fl σ 23 (bD b) = bX b ∧ fl σ 24 (bD b) = bY b) : fl σ 1 (bX b) < nn π ∧ fl σ 1 (bY b) < nn π := by
  obtain ⟨a1, a2, a3, a4, L, Kn, a5, a6, a7⟩ := h
  have q := a5.b
  rw [hx.1, hx.2] at q
  exact ⟨q.2.2.2.1, q.2.2.2.2⟩
theorem EFt.x {π π' : Sh} {σ σ' τ : St} {L : List Stq} {Kn : List Int} (hc : CTX b dl) (h : XEs b Xo π σ τ L Kn) (e : EFt (bX b) (bY b) π σ π' σ') : fl σ' 23 (bD b) = bX b ∧ fl σ' 24 (bD b) = bY b := by
  have w := h.x hc
  have lt := (h.lt hc).2.2
  rw [e.d lt 23 (by omega), e.d lt 24 (by omega)]
  exact w
set_option maxHeartbeats 2000000 in
theorem arg_par {π : Sh} {σ τ : St} {L : List Stq} {Kn : List Int} {d op : Int} (hN : 30000001 ≤ N) (hc : CTX b dl) (h : XEs b Xo π σ τ L Kn) (h1 : fl σ 185 1 = 40) (hF : FRx τ d 5) (hop : fl τ 13 0 = op ∧ op < 20) (hd : 0 ≤ d ∧ d ≤ 10 * op + 11) (hB : PRE τ L Kn) (hE : ARH N b dl 1 14 4 2 (Rd_exp N rA rF) (op + 1)) : ∃ π' σ' τ' o t, Rd_arg_66 N rA rF π σ 0 = some (π', σ', o) ∧ RLp N t τ τ' ∧ EXo N b dl Xo L Kn d 1 0 π σ τ π' σ' τ' o t := by
  have h4 := h.2.2.2.1
  have op0 : 0 ≤ op := by omega
  obtain ⟨b1, b2, b3⟩ := hB
  have tk := h.2.1
  have l1 := tk.lf
  have lt := h.lt hc
  have kd := tk.kd
  have f0 := h.2.2.1
  have v16 := h.2.2.2.2.2.2.2.2.1
  have bv : 0 ≤ bV b := by obtain ⟨-, -, -, -, -, -, -, -, -, q⟩ := hc; exact q
  have t5 : ¬ fl τ 3 0 = 5 := fun e => by have := kd.2.2.2.1.2 e; omega
  have t37 := kd.2.1
  clear kd
  -- it opens
  obtain ⟨σo, hσo⟩ : ∃ σo, σo = sf σ 184 1 (fl σ 184 1 + 1) := ⟨_, rfl⟩
  obtain ⟨τo, hτo⟩ : ∃ τo, τo = se (sf τ 13 0 (fl τ 13 0 + 1)) 72 d 1 := ⟨_, rfl⟩
  have ero : ERf σ σo := by rw [hσo]; exact ERf.sf _ 184 1 _ (by omega)
  have rdo : RDr (fl τ 16 0) d τ τo := by rw [hτo]; exact ((RDr.rf _ _ τ).sf 13 _ (by omega)).sp 72 d 1 (by omega) (Int.le_refl _)
  have fo : ∀ g : Nat, g ≠ 13 → fl τo g 0 = fl τ g 0 := fun g hg => by rw [hτo, fl_se, fl_sfn _ _ _ _ hg]
  have o13 : fl τo 13 0 = op + 1 := by rw [hτo, fl_se, fl_sfs, hop.1]
  have so : ∀ g : Nat, g ≠ 184 → fl σo g 1 = fl σ g 1 := fun g hg => by rw [hσo, fl_sfn _ _ _ _ hg]
  have o184 : fl σo 184 1 = op + 1 := by rw [hσo, fl_sfs]; omega
  have ho : XEs b Xo π σo τo L Kn := by
    refine h.mv hc ero rdo (by omega) hd.1 (by rw [fo 16 (by decide)]; exact v16) ⟨by rw [so 182 (by decide)]; exact f0.1, by rw [fo 11 (by decide)]; exact f0.2⟩ ⟨by omega, by omega, by omega⟩ ?_
    exact tk.rd (fun g hg => so g (by omega)) (fun j => ero.2 2 j) rdo (fun g hg => fo g (by omega))
  obtain ⟨σ1, τ1, a1, a2, a3, a4, a5, a6, a7, -⟩ := ho.adv (N := N) (by omega) hc (by rw [so 185 (by decide)]; omega)
  have adv1 : lf τ1 + 1 ≤ lf τ := by
    have q1 : fl τ1 1 0 = fl τ 1 0 := by rw [a5.1 1 0 (by omega), fo 1 (by decide)]
    have q2 : fl τo 4 0 = fl τ 4 0 := fo 4 (by decide)
    have q3 : fl σo 185 1 = 40 := by rw [so 185 (by decide)]; exact h1
    unfold lf
    omega
  have t41 : fl τ1 41 0 = d + 1 := by rw [a5.1 41 0 (by omega), fo 41 (by decide)]; exact hF.1
  have t16 : fl τ1 16 0 = fl τ 16 0 := by rw [a5.1 16 0 (by omega), fo 16 (by decide)]
  have t13 : fl τ1 13 0 = op + 1 := by rw [a5.1 13 0 (by omega), o13]
  obtain ⟨τ2, hτ2⟩ : ∃ τ2, τ2 = nwF τ1 1 (-1) 0 := ⟨_, rfl⟩
  have rd2 : RDr (fl τ 16 0) (d + 1) τ1 τ2 := by rw [hτ2]; exact nwF_rd (RDr.rf _ _ _) _ _ _ (by omega)
  have f2 : ∀ g : Nat, g ≠ 41 → fl τ2 g 0 = fl τ1 g 0 := fun g hg => by rw [hτ2]; exact nwF_fl _ _ _ _ _ _ hg
  have nv := nwF_v τ1 1 (-1) 0
  rw [t41, ← hτ2] at nv
  have x2 : XEs b Xo π σ1 τ2 L Kn := a3.rt hc rd2 (by omega) (by omega) (by rw [f2 16 (by decide), t16]; exact v16) (fun g hg => f2 g (by omega))
  have lf2 : lf τ2 = lf τ1 := by unfold lf; rw [f2 1 (by decide), f2 4 (by decide)]
  have step1 : rdK N 5 τ d = some τ2 := by
    show r_readArg N τ d = _
    rw [r_readArg, grd_t (by exact ⟨by omega, by omega⟩), hF.2.2, grd_t (by decide), if_neg (by decide), if_neg (by decide), grd_t (by exact ⟨by omega, by omega⟩), if_neg t5, tk.sign (c := 40) (by unfold isSgB; omega), Option.bind_some]
    simp only
    rw [if_pos h1, grd_t (by decide), if_neg (by decide), r_isOpen, grd_t (by exact ⟨by omega, by omega⟩), if_neg (by omega), Option.bind_some]
    simp only
    rw [grd_t (by decide), if_neg (by decide)]
    simp only [bnd]
    rw [← hτo, a2, Option.bind_some, r_begin' ⟨by omega, by omega⟩, Option.bind_some, hτ2]
  have turn1 : RLp N 1 τ τ2 := RLp.one hF.1 ⟨hd.1, by omega⟩ f0.2 ⟨hF.2.1, by omega, by omega⟩ step1
  have r2 : RDr (fl τ 16 0) d τ τ2 := (rdo.tr (RDr.sc (lo := fl τ 16 0) (d := d) a5) (Int.le_refl _) (Int.le_refl _)).tr rd2 (Int.le_refl _) (by omega)
  have q41 : fl τ2 41 0 = d + 2 := by rw [hτ2, nwF_41, t41]; omega
  obtain ⟨π3, σ3, τ3, o, t, c1, c2, c3, c4, c5⟩ := hE Xo π σ1 τ2 L Kn (d + 1) x2 (by rw [f2 13 (by decide)]; exact t13) ⟨by omega, nv.1, nv.2.2.1⟩ ⟨by omega, by omega⟩ nv.2.1 (by
    rw [PRE, lf2, f2 16 (by decide), t16]
    exact ⟨by omega, by omega, by omega⟩)
  have e1 : EFt (bX b) (bY b) π σ π σ1 := EFt.rd (ero.tr (ERf.sc a4)) ⟨lt.1.1, lt.1.2.2.1⟩
  have e3 := e1.tr c3
  have r3 : RDr (fl τ 16 0) d τ τ3 := r2.tr c4 (by rw [f2 16 (by decide), t16]; exact Int.le_refl _) (by omega)
  have rm1 : RmE (bX b) (bY b) π σ π σ1 0 0 := RmE.er (ero.tr (ERf.sc a4)) ⟨lt.1.1, lt.1.2.2.1⟩ lt.2.1 ⟨by omega, by omega⟩
  have run : ∀ σ4, Rd_expect N π3 σ3 41 = some σ4 → Rd_arg_66 N rA rF π σ 0 = some (π3, sf σ4 184 1 (fl σ4 184 1 - 1), o) := fun σ4 z1 => by
    rw [Rd_arg_66, Sc_opens, grd_t (by exact ⟨by omega, by omega⟩), if_pos (by omega), Option.bind_some]
    simp only
    rw [grd_t (by decide), if_neg (by decide), grd_t (by decide), if_pos trivial, ← hσo, a1, Option.bind_some, c1, Option.bind_some]
    simp only
    rw [Rd_arg_154, z1, Option.bind_some, Rd_arg_161]
  have x3 := e3.x hc h
  rw [EXf, EXk] at c5
  simp only [EBg] at c5
  rw [lf2, f2 16 (by decide), t16, f2 13 (by decide), t13] at c5
  have c72 : el τ3 74 d = 5 ∧ el τ3 72 d = 1 := by
    rw [c4.2.2.2 74 d (by omega) (by omega) (by omega), c4.2.2.2 72 d (by omega) (by omega) (by omega), hτ2, nwF_el _ _ _ _ _ _ (by omega), nwF_el _ _ _ _ _ _ (by omega), a5.2, a5.2, hτo, el_sen _ _ _ _ (by decide), el_ses, el_sf]
    exact ⟨hF.2.1, rfl⟩
  rcases c5 with ⟨g1, g2, g3⟩ | ⟨seg, kn, n, w, z, k, g1, ⟨g2, g3, g4⟩, g5, g6, g7, g8, ⟨⟨m1, m2⟩, ⟨m3, m4⟩, m5, m6, m7, m8⟩, ⟨g9, g10⟩, g11⟩
  · obtain ⟨σ4, z1, z2, z3⟩ := g1.exp (N := N) (c := 41) (by omega) ⟨⟨by omega, by omega⟩, by omega⟩
    have er : ERf σ3 (sf σ4 184 1 (fl σ4 184 1 - 1)) := z2.tr (ERf.sf _ 184 1 _ (by omega))
    refine ⟨π3, _, τ3, o, 1 + t, run _ z1, turn1.tr c2, e3.tr (EFt.rd er ⟨lt.1.1, lt.1.2.2.1⟩), r3, Or.inl ⟨z3.o.mono (by omega) (by omega), ((rm1.tr g2).tr (RmE.er (A := 0) (B := 0) er ⟨lt.1.1, lt.1.2.2.1⟩ (g1.lt x3) ⟨by omega, by omega⟩)).mono (by omega) (by omega), by omega⟩⟩
  · have tk3 := g1.2.1
    have f3 := g1.2.2.1
    have h34 := g1.2.2.2.1
    have t3b := tk3.lf
    have v3 := g1.2.2.2.2.2.2.2.2.1
    have lt3 := g1.lt hc
    by_cases cE : fl σ3 185 1 = 41
    · -- it closes
      obtain ⟨τ4, hτ4⟩ : ∃ τ4, τ4 = sf τ3 13 0 (fl τ3 13 0 - 1) := ⟨_, rfl⟩
      obtain ⟨σ5, τ5, w1, w2, w3, w4, w5, w6, w7, -⟩ := both_advance (N := N) (π := π3) (σ := σ3) (τ := τ4) (by omega) (tk3.cg (fun _ _ => rfl) (fun _ => rfl) (fun g hg => by rw [hτ4, fl_sfn _ _ _ _ (by omega)]) (fun _ => by rw [hτ4]; rfl)) (by omega)
      obtain ⟨σ6, hσ6⟩ : ∃ σ6, σ6 = sf σ5 184 1 (fl σ5 184 1 - 1) := ⟨_, rfl⟩
      obtain ⟨τ6, hτ6⟩ : ∃ τ6, τ6 = sf (sf τ5 46 0 (fl τ5 46 0)) 41 0 (fl τ5 41 0 - 1) := ⟨_, rfl⟩
      have ex : Rd_expect N π3 σ3 41 = some σ5 := by
        rw [Rd_expect, grd_t tk3.kd.1, grd_t (by decide), if_pos cE, w1, Option.bind_some]
      have er : ERf σ3 σ6 := by rw [hσ6]; exact (ERf.sc w3).tr (ERf.sf _ 184 1 _ (by omega))
      have t4f : ∀ g : Nat, g ≠ 13 → fl τ4 g 0 = fl τ3 g 0 := fun g hg => by rw [hτ4, fl_sfn _ _ _ _ hg]
      have t6f : ∀ g : Nat, g ≠ 46 → g ≠ 41 → fl τ6 g 0 = fl τ5 g 0 := fun g x y => by rw [hτ6, fl_sfn _ _ _ _ y, fl_sfn _ _ _ _ x]
      have t6e : ∀ a i, el τ6 a i = el τ3 a i := fun a i => by rw [hτ6, el_sf, el_sf, w4.2, hτ4, el_sf]
      have t613 : fl τ6 13 0 = op := by rw [t6f 13 (by decide) (by decide), w4.1 13 0 (by omega), hτ4, fl_sfs]; omega
      have t646 : fl τ6 46 0 = n := by rw [hτ6, fl_sfn _ _ _ _ (by decide), fl_sfs, w4.1 46 0 (by omega), t4f 46 (by decide)]; exact g3
      have t641 : fl τ6 41 0 = d := by rw [hτ6, fl_sfs, w4.1 41 0 (by omega), t4f 41 (by decide), g2]; omega
      have t616 : fl τ6 16 0 = fl τ3 16 0 := by rw [t6f 16 (by decide) (by decide), w4.1 16 0 (by omega), t4f 16 (by decide)]
      have rr : RDr (fl τ 16 0) d τ3 τ6 := by
        rw [hτ6]
        exact ((((by rw [hτ4]; exact (RDr.rf _ _ τ3).sf 13 _ (by omega) : RDr (fl τ 16 0) d τ3 τ4).tr (RDr.sc (lo := fl τ 16 0) (d := d) w4) (Int.le_refl _) (Int.le_refl _)).sf 46 _ (by omega)).sf 41 _ (by omega))
      have l6 : lf τ6 + 1 ≤ lf τ3 := by
        have q1 : fl τ6 1 0 = fl τ3 1 0 := rr.1 1 0 (by omega) (by decide) (by decide) (by decide) (by decide)
        have q2 : fl τ6 4 0 = fl τ5 4 0 := t6f 4 (by decide) (by decide)
        have q3 : fl τ4 4 0 = fl τ3 4 0 := t4f 4 (by decide)
        unfold lf
        omega
      have step2 : rdK N 5 τ3 d = some τ6 := by
        show r_readArg N τ3 d = _
        rw [r_readArg, grd_t (by exact ⟨by omega, by omega⟩), c72.2, grd_t (by decide), if_pos rfl, tk3.sign (c := 41) (by unfold isSgB; omega), Option.bind_some]
        simp only
        rw [if_pos cE, grd_t (by decide), if_neg (by decide)]
        simp only [bnd]
        rw [← hτ4, w2, Option.bind_some, r_finish', Option.bind_some, hτ6]
      have x6 : XEs b Xo π3 σ6 τ6 (L ++ seg) (Kn ++ kn) := by
        refine g1.mv hc er rr (by omega) hd.1 (by omega) ⟨?_, ?_⟩ ⟨?_, by omega, by omega⟩ (w5.cg (fun g hg => by rw [hσ6, fl_sfn _ _ _ _ (by omega)]) (fun _ => by rw [hσ6]; rfl) (fun g hg => t6f g (by omega) (by omega)) (fun _ => by rw [hτ6]; rfl))
        · rw [hσ6, fl_sfn _ _ _ _ (by decide), w3.1 182 1 (by omega)]; exact f3.1
        · rw [t6f 11 (by decide) (by decide), w4.1 11 0 (by omega), t4f 11 (by decide)]; exact f3.2
        · rw [hσ6, fl_sfs, w3.1 184 1 (by omega), t613]; omega
      refine ⟨π3, σ6, τ6, o, 1 + t + 1, by rw [hσ6]; exact run _ ex, (turn1.tr c2).tr (RLp.one g2 ⟨hd.1, by omega⟩ f3.2 ⟨c72.1, by omega, by omega⟩ step2), e3.tr (EFt.rd er ⟨lt.1.1, lt.1.2.2.1⟩), r3.tr rr (Int.le_refl _) (Int.le_refl _), Or.inr ⟨seg, kn, n, w, z, k, x6, ⟨t641, t646, by omega⟩, ⟨by omega, by omega⟩, by rw [t6e]; exact g6, g7.cg (fun a i _ _ _ _ _ => t6e a i) (List.prefix_refl _) ⟨Int.le_refl _, by omega⟩ ⟨Int.le_refl _, Int.le_refl _, Nat.le_refl _⟩, g8, ⟨⟨m1, by omega⟩, ⟨m3, by omega⟩, by omega, by omega, by omega, by omega⟩, ⟨by omega, by omega⟩, ((rm1.tr g11).tr (RmE.er (A := 0) (B := 0) er ⟨lt.1.1, lt.1.2.2.1⟩ lt3.2.1 ⟨by omega, by omega⟩)).mono (by omega) (by omega)⟩⟩
    · have ex : Rd_expect N π3 σ3 41 = some (sf (sf σ3 182 1 1) 183 1 (fl τ3 4 0)) := by
        rw [Rd_expect, grd_t tk3.kd.1, grd_t (by decide), if_neg cE, c_fail (by rw [f3.1]; decide), flS, if_pos f3.1, Option.bind_some, tk3.2.1]
      have q := g1.q (f := 1) (p := fl τ3 4 0) (by omega)
      have er : ERf σ3 (sf (sf (sf σ3 182 1 1) 183 1 (fl τ3 4 0)) 184 1 (fl (sf (sf σ3 182 1 1) 183 1 (fl τ3 4 0)) 184 1 - 1)) := ((ERf.sf _ 182 1 _ (by omega)).tr (ERf.sf _ 183 1 _ (by omega))).tr (ERf.sf _ 184 1 _ (by omega))
      have step2 : rdK N 5 τ3 d = some (sf (sf τ3 11 0 1) 12 0 (fl τ3 4 0)) := by
        show r_readArg N τ3 d = _
        rw [r_readArg, grd_t (by exact ⟨by omega, by omega⟩), c72.2, grd_t (by decide), if_pos rfl, tk3.sign (c := 41) (by unfold isSgB; omega), Option.bind_some]
        simp only
        rw [if_neg cE, grd_t (by decide), if_pos rfl, r_fail0 f3.2, Option.bind_some]
      refine ⟨π3, _, _, o, 1 + t + 1, run _ ex, (turn1.tr c2).tr (RLp.one g2 ⟨hd.1, by omega⟩ f3.2 ⟨c72.1, by omega, by omega⟩ step2), e3.tr (EFt.rd er ⟨lt.1.1, lt.1.2.2.1⟩), (r3.sf 11 1 (by omega)).sf 12 _ (by omega), Or.inl ⟨q.o.mono (by rw [List.length_append]; omega) (by rw [List.length_append]; omega), ((rm1.tr g11).tr (RmE.er (A := 0) (B := 0) er ⟨lt.1.1, lt.1.2.2.1⟩ lt3.2.1 ⟨by omega, by omega⟩)).mono (by omega) (by omega), by omega⟩⟩
/-- an argument -/
theorem arg_all {op : Int} (hN : 30000001 ≤ N) (hc : CTX b dl) (hE : op < 20 → ARH N b dl 1 14 4 2 (Rd_exp N rA rF) (op + 1)) : ARH N b dl 5 1 0 11 (Rd_arg N rA rF) op := by
  intro Xo π σ τ L Kn d h hop hF hd hn hB
  have tk := h.2.1
  have kd := tk.kd
  have h4 := h.2.2.2.1
  have f0 := h.2.2.1
  rw [Rd_arg, grd_t kd.1]
  by_cases c1 : fl σ 185 1 = 1
  · rw [if_pos c1]
    obtain ⟨π', σ', τ', o, t, q1, q2⟩ := arg_name hN hc h c1 hF ⟨hd.1, by omega⟩ hB
    rw [q1, Option.bind_some]
    exact ⟨π', σ', τ', o, t, rfl, q2⟩
  rw [if_neg c1]
  by_cases c2 : fl σ 185 1 = 4
  · rw [if_pos c2, Rd_arg_32, grd_t (by decide), if_neg (by decide)]
    by_cases co : op = 20
    · exact arg_deep hc h (Or.inl ⟨c2, rfl⟩) hF ⟨hd.1, by omega⟩ (by omega)
    · exact arg_text hN hc h c2 hF ⟨hop, by omega⟩ hd hB
  rw [if_neg c2, Rd_arg_32, grd_t (by decide), if_pos rfl, grd_t kd.1]
  by_cases c3 : fl σ 185 1 = 40
  · rw [if_pos c3]
    by_cases co : op = 20
    · exact arg_deep hc h (Or.inr ⟨c3, rfl⟩) hF ⟨hd.1, by omega⟩ (by omega)
    · exact arg_par hN hc h c3 hF ⟨hop, by omega⟩ hd hB (hE (by omega))
  rw [if_neg c3, c_fail (by rw [f0.1]; decide), flS, if_pos f0.1, Option.bind_some, tk.2.1]
  refine ⟨π, _, _, 0, 1, rfl, RLp.one hF.1 ⟨hd.1, by omega⟩ f0.2 ⟨hF.2.1, by omega, by omega⟩ ?_, EXo.flt (N := N) (c := 1) (p := fl τ 4 0) (f := 1) (o := 0) (t := 1) hc h (ERf.rf σ) (fun g _ => rfl) (RDr.rf _ _ τ) (by omega) (by omega) (Int.le_refl _)⟩
  have t2 : ¬ fl τ 3 0 = 2 := fun e => c1 (kd.2.2.1.2 e)
  have t5 : ¬ fl τ 3 0 = 5 := fun e => c2 (kd.2.2.2.1.2 e)
  have ti : i32 (fl τ 3 0) := ⟨by omega, by omega⟩
  show r_readArg N τ d = _
  rw [r_readArg, grd_t (by exact ⟨by omega, by omega⟩), hF.2.2, grd_t (by decide), if_neg (by decide), if_neg (by decide), grd_t ti, if_neg t5, tk.sign (c := 40) (by unfold isSgB; omega), Option.bind_some]
  simp only
  rw [if_neg c3, grd_t (by decide), if_pos rfl, grd_t ti, if_neg t2, r_fail0 f0.2, Option.bind_some]
end AB
