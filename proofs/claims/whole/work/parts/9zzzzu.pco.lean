/-! pieces: operators; all pieces -/
section PO9
variable {N : Nat} {b : Bse} {Xo : Int → Prop} {dl : List (Int × Int)} {rA rF : Sh → St → Option (Sh × St × Int)}
set_option maxHeartbeats 4000000 in
theorem pc_op {op d : Int} {π : Sh} {σ τ : St} {L : List Stq} {Kn : List Int} (hN : 30000001 ≤ N) (hc : CTX b dl) (hA : ARH N b dl 5 1 0 11 rA op) (h : XEs b Xo π σ τ L Kn) (hop : fl τ 13 0 = op) (hK : FRx τ d 9) (hd : 0 ≤ d ∧ d ≤ 10 * op + 9) (hB : PRE τ L Kn) (h1 : isOpB (fl σ 185 1)) : ∃ π' σ' τ' pc t, Rd_piece N rA rF π σ = some (π', σ', pc) ∧ RLp N t τ τ' ∧ PIo N b dl Xo L Kn d π σ τ π' σ' τ' pc t := by
  have tk := h.2.1
  have f0 := h.2.2.1
  have op20 := h.2.2.2.1
  have v16 := h.2.2.2.2.2.2.2.2.1
  have bv : 0 ≤ bV b := by obtain ⟨-, -, -, -, -, -, -, -, -, q⟩ := hc; exact q
  have hP : bP b ≤ 4 := by obtain ⟨-, -, -, -, ⟨q, -⟩, -⟩ := hc; exact q.2
  have n56 := h.1.1
  have lx := h.lt hc
  have nb := h.2.2.2.2.2.2.1.1.1
  have l0 := tk.lf
  have k185 : fl σ 185 1 = 35 ∨ fl σ 185 1 = 43 ∨ fl σ 185 1 = 45 ∨ fl σ 185 1 = 42 := h1
  have s6 : fl τ 6 0 = fl σ 185 1 := by
    have t6 := tk.2.2.2.2.2
    rcases t6 with q | q | ⟨q, -⟩ | q | q | q | q | ⟨sg, y1, y2, y3, y4, -⟩
    · omega
    · omega
    · omega
    · omega
    · omega
    · omega
    · omega
    · rw [y4]; exact y2.symm
  have ki : i32 (fl σ 185 1) ∧ fl σ 185 1 ≠ 1 ∧ fl σ 185 1 ≠ 40 ∧ fl σ 185 1 ≠ 5 ∧ fl σ 185 1 ≠ 6 := ⟨⟨by omega, by omega⟩, by omega, by omega, by omega, by omega⟩
  clear k185
  unfold PRE at hB
  obtain ⟨n, hn⟩ : ∃ n, n = fl τ 16 0 := ⟨_, rfl⟩
  obtain ⟨pc, hpc⟩ : ∃ pc : Int, pc = nn π := ⟨_, rfl⟩
  -- the class begins
  obtain ⟨π1, σ2, c1, c2, c3, c4, c5, c6, c7, c8, c9⟩ := pc_new (N := N) (π := π) (σ := σ) (kd := 21) (place := fl σ 186 1)
  have e1 : EFt (bX b) (bY b) π σ π1 σ2 := EFt.nw c3 (Int.le_refl _) ⟨lx.1.2.1, lx.1.2.2.2.1⟩
  have bd1 : BDy (fun x => Xo x ∨ x = (nn π : Int) + 1) π1 σ2 τ (bD b) (bP b) L Kn := by
    refine h.2.2.2.2.2.1.own c3.1 (fun f i hi _ => c3.2.1 f i hi) (fun a j ha _ => c3.2.2 a j ha) (fun x hx => ?_) n56
    rcases hx with q | q
    · have := h.2.2.2.2.2.1.2.2.2.2.2.2.2.1 x q
      exact ⟨Or.inl q, this.1, by omega⟩
    · exact ⟨Or.inr (by omega), by omega, by omega⟩
  have x2 : XEs b (fun x => Xo x ∨ x = (nn π : Int) + 1) π1 σ2 τ L Kn := h.cl hc e1 (fun g => c3.2.1 g 1 (by omega)) bd1 (fun x hx => by
    rcases hx with q | q
    · exact h.2.2.2.2.2.2.2.2.2 x q
    · omega)
  obtain ⟨σ2', hσ2'⟩ : ∃ σ2', σ2' = sf σ2 122 (nn π) (fl σ 185 1) := ⟨_, rfl⟩
  have pw : PWr σ2 σ2' (nn π) := by rw [hσ2']; exact PWr.sf _ 122 _ _ (by decide)
  have x2' : XEs b (fun x => Xo x ∨ x = (nn π : Int) + 1) π1 σ2' τ L Kn := x2.pw pw ⟨by omega, by omega⟩
  -- the reference
  obtain ⟨τn, hτn⟩ : ∃ τn, τn = se (nwN τ 12 (fl τ 4 0)) 92 n (fl τ 6 0) := ⟨_, rfl⟩
  have rdn : RDr n d τ τn := by rw [hτn]; exact (nwN_rd (RDr.rf _ _ _) 12 _ (by omega)).sn 92 n _ (by omega) (Int.le_refl _)
  have fn' : ∀ g : Nat, g ≠ 16 → fl τn g 0 = fl τ g 0 := fun g hg => by rw [hτn, fl_se]; exact nwN_fl _ _ _ _ _ hg
  have fn16 : fl τn 16 0 = n + 1 := by rw [hτn, fl_se, hn]; exact nwN_16 _ _ _
  have nvn := nwN_v τ 12 (fl τ 4 0)
  rw [← hn] at nvn
  have xn : XEs b (fun x => Xo x ∨ x = (nn π : Int) + 1) π1 σ2' τn L Kn := x2'.rt hc rdn (by omega) hd.1 (by omega) (fun g hg => fn' g (by omega))
  have s1 : ∀ g : Nat, fl σ2' g 1 = fl σ g 1 := fun g => by rw [pw.1 g 1 (by omega), c3.2.1 g 1 (by omega)]
  obtain ⟨σ3, τa, p1, p2, p3, p4, p5, p6, p7, -⟩ := xn.adv (N := N) (by omega) hc (by rw [s1]; exact ki.2.2.2.1)
  have g41 : fl τa 41 0 = d + 1 := by rw [p5.1 41 0 (by omega), fn' 41 (by decide)]; exact hK.1
  obtain ⟨τ1, hτ1⟩ : ∃ τ1, τ1 = se (se τa 73 d n) 72 d 2 := ⟨_, rfl⟩
  have h141 : fl τ1 41 0 = d + 1 := by rw [hτ1, fl_se, fl_se]; exact g41
  obtain ⟨τw, hτw⟩ : ∃ τw, τw = nwF τ1 5 (-1) 0 := ⟨_, rfl⟩
  have turn1 : rdK N 9 τ d = some τw := by
    show r_readPiece N τ d = _
    rw [r_readPiece, grd_t (by exact ⟨hd.1, by omega⟩), hK.2.2, grd_t (by decide), if_neg (by decide), if_neg (by decide), tk.sign (c := 40) (by unfold isSgB; omega), Option.bind_some]
    simp only
    rw [if_neg ki.2.2.1, grd_t (by decide), if_pos rfl, tk.op.1, Option.bind_some]
    simp only
    rw [if_pos h1, grd_t (by decide), if_neg (by decide), r_node' ⟨by omega, by omega⟩, Option.bind_some]
    simp only
    rw [← hn, grd_t (by exact ⟨by omega, by omega⟩), nwN_fl _ _ _ _ _ (by decide)]
    simp only [bnd]
    rw [← hτn, p2, Option.bind_some, ← hτ1, r_begin' ⟨by omega, by omega⟩, Option.bind_some, hτw]
  have rl1 : RLp N 1 τ τw := RLp.one hK.1 ⟨hd.1, by omega⟩ f0.2 ⟨hK.2.1, by omega, by omega⟩ turn1
  have nvw := nwF_v τ1 5 (-1) 0
  rw [h141, ← hτw] at nvw
  have fw : ∀ g : Nat, g ≠ 41 → fl τw g 0 = fl τa g 0 := fun g hg => by rw [hτw, nwF_fl _ _ _ _ _ _ hg, hτ1, fl_se, fl_se]
  have ew : ∀ a i : Int, 75 ≤ a → el τw a i = el τa a i := fun a i ha => by rw [hτw, nwF_el _ _ _ _ _ _ (by omega), hτ1, el_sen _ _ _ _ (by omega), el_sen _ _ _ _ (by omega)]
  have ewd : el τw 74 d = 9 ∧ el τw 72 d = 2 ∧ el τw 73 d = n := by
    rw [hτw, nwF_el _ _ _ _ _ _ (by omega), nwF_el _ _ _ _ _ _ (by omega), nwF_el _ _ _ _ _ _ (by omega), hτ1]
    refine ⟨?_, by rw [el_ses], by rw [el_sen _ _ _ _ (by decide), el_ses]⟩
    rw [el_sen _ _ _ _ (by decide), el_sen _ _ _ _ (by decide), p5.2, hτn, el_sen _ _ _ _ (by decide), nwN_el _ _ _ _ _ (by omega)]
    exact hK.2.1
  have rda : RDr n d τ τa := rdn.tr (RDr.sc (lo := n) (d := d) p5) (Int.le_refl _) (Int.le_refl _)
  have rdaw : RDr n d τa τw := by
    rw [hτw]
    refine nwF_rd ?_ _ _ _ (by omega)
    rw [hτ1]
    exact ((RDr.rf _ _ τa).sp 73 d n (by omega) (Int.le_refl _)).sp 72 d 2 (by omega) (Int.le_refl _)
  have rdw : RDr n d τ τw := rda.tr rdaw (Int.le_refl _) (Int.le_refl _)
  have fw16 : fl τw 16 0 = n + 1 := by rw [fw 16 (by decide), p5.1 16 0 (by omega), fn16]
  have xw : XEs b (fun x => Xo x ∨ x = (nn π : Int) + 1) π1 σ3 τw L Kn := p3.rt hc rdaw (by omega) hd.1 (by omega) (fun g hg => fw g (by omega))
  have lfw : lf τw + 1 ≤ lf τ := by
    have z1 : fl τw 1 0 = fl τ 1 0 := rdw.1 1 0 (by omega) (by decide) (by decide) (by decide) (by decide)
    have z2 : fl τw 4 0 = fl τa 4 0 := fw 4 (by decide)
    have z3 : fl τn 4 0 = fl τ 4 0 := fn' 4 (by decide)
    have z4 : fl σ2' 185 1 ≠ 6 := by rw [s1]; exact ki.2.2.2.2
    unfold lf
    omega
  have lw := xw.2.1.lf
  have w13 : fl τw 13 0 = op := by rw [fw 13 (by decide), p5.1 13 0 (by omega), fn' 13 (by decide)]; exact hop
  have w41 : fl τw 41 0 = d + 2 := by rw [hτw, nwF_41, h141]; omega
  -- the argument
  obtain ⟨π', σ4, τ2, o, t, q1, q2, q3, q4, q5⟩ := hA (fun x => Xo x ∨ x = (nn π : Int) + 1) π1 σ3 τw L Kn (d + 1) xw w13 ⟨by omega, nvw.1, nvw.2.2.1⟩ ⟨by omega, by omega⟩ nvw.2.1 (by unfold PRE; exact ⟨by omega, by omega, by omega⟩)
  have pf3 : PCf π1 σ3 (nn π) 21 (fl σ 186 1) (fl σ 185 1) 0 0 0 ∧ PCa π1 σ3 (nn π) [] ∧ fl σ3 129 (nn π) = nn π + 1 ∧ fl σ3 127 (nn π) = -1 := by
    have e3 : ∀ g : Nat, g ≠ 122 → fl σ3 g (nn π) = fl σ2 g (nn π) := fun g hg => by rw [p4.1 g _ (by omega), hσ2', fl_sfn _ _ _ _ hg]
    obtain ⟨v1, v2, v3, v4, v5, v6, v7⟩ := c6
    obtain ⟨u1, u2, u3, u4⟩ := c7
    exact ⟨⟨v1, by rw [e3 120 (by decide)]; exact v2, by rw [e3 121 (by decide)]; exact v3, by rw [p4.1 122 _ (by omega), hσ2', fl_sfs], by rw [e3 123 (by decide)]; exact v5, by rw [e3 124 (by decide)]; exact v6, by rw [e3 125 (by decide)]; exact v7⟩, ⟨by rw [e3 129 (by decide)]; exact u1, by rw [e3 130 (by decide)]; exact u2, u3, trivial⟩, by rw [e3 129 (by decide)]; exact c9, by rw [e3 127 (by decide)]; exact c8.2.1⟩
  obtain ⟨g1, g2, g3, g4⟩ := PC.ef hc xw pf3.1 pf3.2.1 (by omega) q3
  obtain ⟨m1, m2⟩ := pc_give (N := N) (o := o) g1.1 g2 (by simp)
  have ar : fl σ4 129 (nn π) = (nn π : Int) + 1 := by rw [g3]; exact pf3.2.2.1
  rw [ar] at m1 m2
  obtain ⟨σ5, hσ5⟩ : ∃ σ5, σ5 = sf (se σ4 ((nn π : Int) + 1) (([] : List Int).length : Int) o) 130 (nn π) ((([] : List Int).length : Int) + 1) := ⟨_, rfl⟩
  rw [← hσ5] at m1 m2
  have kf : ∀ (f : Nat) (j : Int), ¬ (j = (nn π : Int) ∧ f = 130) → fl σ5 f j = fl σ4 f j := fun f j hq => by rw [hσ5, fl_sf, if_neg (by omega), fl_se]
  have ke : ∀ a j : Int, a ≠ (nn π : Int) + 1 → el σ5 a j = el σ4 a j := fun a j hq => by rw [hσ5, el_sf, el_se, if_neg (by omega)]
  have e186 : fl (zO σ (nn π) dfl) 186 1 = fl σ 186 1 := by rw [fl_zO, if_neg (by omega)]
  have cls : Rd_piece N rA rF π σ = some (π', σ5, (nn π : Int)) := by
    have s185 : fl σ2 185 1 = fl σ 185 1 := c3.2.1 185 1 (by omega)
    rw [Rd_piece, grd_t ki.1, if_neg ki.2.1, if_neg ki.2.2.1, c_isOp ki.1, Option.bind_some, if_pos h1, grd_t (by decide), if_neg (by decide), Rd_piece_118, c1, Option.bind_some, grd_t c2]
    simp only
    rw [Rd_piece_125, grd_t c6.1]
    simp only [bnd]
    rw [s185, ← hσ2', p1, Option.bind_some, q1, Option.bind_some]
    simp only
    rw [Rd_piece_149, m1, Option.bind_some, grd_t g1.1]
  have n12 := q3.1.1
  have b3' := hc.2.2.1
  have k1 : fl σ5 1 (bX b) = fl σ4 1 (bX b) ∧ fl σ5 1 (bY b) = fl σ4 1 (bY b) := ⟨kf 1 _ (by omega), kf 1 _ (by omega)⟩
  have e03 : EFt (bX b) (bY b) π σ π1 σ3 := by
    have z2 : EFt (bX b) (bY b) π σ π1 σ2' := e1.own ⟨ext.rf _, fun f i hi => pw.1 f i (by omega), fun a j _ => pw.2 a j⟩ ⟨pw.1 1 _ (by omega), pw.1 1 _ (by omega)⟩
    exact z2.tr (EFt.rd (ERf.sc p4) ⟨lx.1.1, lx.1.2.2.1⟩)
  have e05 : EFt (bX b) (bY b) π σ π' σ5 := (e03.tr q3).own ⟨ext.rf _, fun f i hi => kf f i (by omega), fun a j ha => ke a j (by omega)⟩ k1
  have kk : ∀ y, y = bX b ∨ y = bY b → fl σ3 1 y = fl σ 1 y := fun y hy => by rw [p4.1 1 y (by omega), pw.1 1 y (by omega), c3.2.1 1 y (by omega)]
  have cx1 : cpc π1 σ3 (bX b) = cpc π σ (bX b) := cpc_eq (kk _ (Or.inl rfl)) c3.1 lx.2.1.1
  have cy1 : cpc π1 σ3 (bY b) = cpc π σ (bY b) := cpc_eq (kk _ (Or.inr rfl)) c3.1 lx.2.1.2
  have rd2 : RDr n d τ τ2 := rdw.tr q4 (by omega) (by omega)
  have hA1 : (nn π : Int) + 1 < nn π' := by omega
  rw [hn] at rd2
  rcases q5 with f | f
  · obtain ⟨y1, y2, y3⟩ := f
    rw [w13] at y1 y2
    have lt' := y1.lt (q3.x hc xw)
    have cx : cpc π' σ5 (bX b) = cpc π' σ4 (bX b) := cpc_eq k1.1 (ext.rf _) lt'.1
    have cy : cpc π' σ5 (bY b) = cpc π' σ4 (bY b) := cpc_eq k1.2 (ext.rf _) lt'.2
    have fq : XQ b (fun x => Xo x ∨ x = (nn π : Int) + 1) π' σ5 τ2 (L.length + 2 * lf τw + 4 * (20 - op) + 0) (Kn.length + lf τw) := by
      obtain ⟨w1, ⟨τt, w2⟩, w3, w4, L', Kn', w5, w6, w7⟩ := y1
      exact ⟨w1, ⟨τt, w2.cg (fun g _ => kf g 1 (by omega)) (fun j => ke 2 j (by omega)) (fun _ _ => rfl) (fun _ => rfl)⟩, ⟨by rw [kf 182 1 (by omega)]; exact w3.1, by rw [kf 183 1 (by omega)]; exact w3.2.1, w3.2.2⟩, by rw [kf 144 44 (by omega)]; exact w4, L', Kn', by rw [hσ5]; exact w5.ar w1.1 (by omega), w6, w7⟩
    refine ⟨π', σ5, τ2, nn π, 1 + t, cls, rl1.tr q2, e05, rd2, Or.inl ⟨⟨(fq.sub (X' := Xo) (fun x w => Or.inl w)).mono (by omega) (by omega), ⟨?_, ?_⟩, by push_cast; omega⟩, Or.inr ⟨g1.1, Int.le_refl _⟩⟩⟩
    · have := y2.1; omega
    · have := y2.2; omega
  · obtain ⟨seg, kn2, cn, w, z, k, u1, ⟨u2, u3, u4⟩, u5, u6, u7, u8, ⟨⟨y1, y2⟩, ⟨y3, y4⟩, y5, y6, y7, y8⟩, ⟨u9, u10⟩, u11⟩ := f
    rw [w13] at y2 y4 u4
    rw [fw16] at y8 u5 u7
    have l2' := u1.2.1.lf
    have h216 : fl τ2 16 0 ≤ 32768 := by omega
    have cnb0 : 0 ≤ cn ∧ cn < 32768 := by omega
    have x5 : XEs b Xo π' σ5 τ2 (L ++ seg) (Kn ++ kn2) := by
      have w : XEs b (fun x => Xo x ∨ x = (nn π : Int) + 1) π' σ5 τ2 (L ++ seg) (Kn ++ kn2) := by rw [hσ5]; exact u1.ar ⟨by omega, by omega⟩ ⟨by omega, by omega⟩
      exact w.sub (fun x w => Or.inl w)
    have lx' := u1.lt hc
    have cx : cpc π' σ5 (bX b) = cpc π' σ4 (bX b) := cpc_eq k1.1 (ext.rf _) lx'.2.1.1
    have cy : cpc π' σ5 (bY b) = cpc π' σ4 (bY b) := cpc_eq k1.2 (ext.rf _) lx'.2.1.2
    have tb : ∀ a : Int, 84 ≤ a → a ≤ 94 → el τ2 a n = el τw a n := fun a z1 z2 => q4.2.2.1 a n z1 z2 (by omega)
    have twn : ∀ a : Int, 84 ≤ a → a ≤ 94 → a ≠ 92 → el τ2 a n = el (nwN τ 12 (fl τ 4 0)) a n := fun a z1 z2 z3 => by rw [tb a z1 z2, ew a n (by omega), p5.2, hτn, el_sen _ _ _ _ z3]
    have h87 : el τ2 87 n = -1 := by rw [twn 87 (by omega) (by omega) (by omega)]; exact nvn.2.2.2.2.2.2.2.1
    have h92 : el τ2 92 n = fl σ 185 1 := by rw [tb 92 (by omega) (by omega), ew 92 n (by omega), p5.2, hτn, el_ses]; exact s6
    have fd : ∀ a : Int, 71 ≤ a → a ≤ 74 → el τ2 a d = el τw a d := fun a z1 z2 => q4.2.2.2 a d z1 z2 (by omega)
    obtain ⟨τ3, hτ3⟩ : ∃ τ3, τ3 = apN τ2 n cn := ⟨_, rfl⟩
    obtain ⟨τ4, hτ4⟩ : ∃ τ4, τ4 = sf (sf τ3 46 0 n) 41 0 (fl τ3 41 0 - 1) := ⟨_, rfl⟩
    have f3 : ∀ g : Nat, fl τ3 g 0 = fl τ2 g 0 := fun g => by rw [hτ3, apN_fl]
    have e373 : el τ3 73 d = n := by rw [hτ3, apN_el _ _ _ _ _ (by omega), fd 73 (by omega) (by omega)]; exact ewd.2.2
    have turn2 : rdK N 9 τ2 d = some τ4 := by
      show r_readPiece N τ2 d = _
      rw [r_readPiece, grd_t (by exact ⟨hd.1, by omega⟩), fd 72 (by omega) (by omega), ewd.2.1, grd_t (by decide), if_neg (by decide), if_pos rfl, fd 73 (by omega) (by omega), ewd.2.2, u3, r_append' ⟨by omega, by omega⟩ cnb0 (Or.inl h87) (by rw [h87]; decide), Option.bind_some, ← hτ3, e373, r_finish', Option.bind_some, hτ4]
    have f4 : ∀ g : Nat, g ≠ 46 → g ≠ 41 → fl τ4 g 0 = fl τ2 g 0 := fun g z1 z2 => by rw [hτ4, fl_sfn _ _ _ _ z2, fl_sfn _ _ _ _ z1, f3]
    have e4 : ∀ a i, el τ4 a i = el τ3 a i := fun a i => by rw [hτ4, el_sf, el_sf]
    have e4x : ∀ a i : Int, 85 ≤ a → n + 1 ≤ i → ¬ (a = 85 ∧ i = cn) → el τ4 a i = el τ2 a i := fun a i z1 z2 z3 => by
      rw [e4, hτ3]
      unfold apN
      rw [if_pos h87, el_se, if_neg z3, el_se, if_neg (by omega), el_se, if_neg (by omega)]
    have e4n : ∀ a : Int, 88 ≤ a → a ≤ 94 → el τ4 a n = el τ2 a n := fun a z1 z2 => by rw [e4, hτ3, apN_el _ _ _ _ _ (by omega)]
    have e487 : el τ4 87 n = cn ∧ el τ4 85 cn = -1 := by
      rw [e4, e4, hτ3]
      unfold apN
      rw [if_pos h87]
      exact ⟨by rw [el_sen _ _ _ _ (by decide), el_sen _ _ _ _ (by decide), el_ses], by rw [el_ses]⟩
    have lf4 : lf τ4 = lf τ2 := by unfold lf; rw [f4 1 (by decide) (by decide), f4 4 (by decide) (by decide)]
    have f16 := f4 16 (by decide) (by decide)
    have l2 := u1.2.1.lf
    have h16 : fl τ4 16 0 ≤ 32768 := by rw [f16]; exact h216
    have cnb : (0 ≤ cn ∧ cn < 32768) ∧ n + 1 ≤ cn ∧ cn < fl τ4 16 0 := by rw [f16]; omega
    have rd24 : RDr n d τ2 τ4 := by
      rw [hτ4]
      refine ((?_ : RDr n d τ2 τ3).sf 46 n (by omega)).sf 41 _ (by omega)
      rw [hτ3]
      exact apN_rd (RDr.rf _ _ _) ⟨Int.le_refl _, by omega, Or.inl h87⟩
    have x6 : XEs b Xo π' σ5 τ4 (L ++ seg) (Kn ++ kn2) := x5.rt hc rd24 (by omega) hd.1 (by omega) (fun g hg => f4 g (by omega) (by omega))
    have nd : ND n (fl τ4 16 0) n := ⟨⟨by omega, by omega⟩, Int.le_refl _, by omega⟩
    have e494 : el τ4 94 n = 12 := by rw [e4n 94 (by omega) (by omega), twn 94 (by omega) (by omega) (by omega)]; exact nvn.1
    have e493 : el τ4 93 n = fl τ 4 0 := by rw [e4n 93 (by omega) (by omega), twn 93 (by omega) (by omega) (by omega)]; exact nvn.2.1
    have exq : EXq N b τ4 (n + 1) (fl τ4 16 0) (Kn ++ kn2) L.length seg cn o w z k := by
      rw [f16]
      exact u7.cg (fun a i z1 z2 z3 z4 z5 => e4x a i z1 z3 z5) (List.prefix_refl _) ⟨Int.le_refl _, Int.le_refl _⟩ ⟨Int.le_refl _, Int.le_refl _, Nat.le_refl _⟩
    have c94 : (0 ≤ el τ4 94 cn ∧ el τ4 94 cn < 100) ∧ ¬ (9 ≤ el τ4 94 cn ∧ el τ4 94 cn ≤ 13) := by
      rw [e4x 94 cn (by omega) (by omega) (by omega)]; exact ⟨u6.1, u6.2.1⟩
    have fq : FUq N b τ4 n (fl τ4 16 0) (Kn ++ kn2) L.length seg n [(cn, o)] (w + 2) (z + 1) (k + 4) := by
      intro x y hx
      have hl := HLv_b hx
      have e : ∀ a i, ¬ (a = 85 ∧ i = n) → el (se τ4 85 n y) a i = el τ4 a i := fun a i hq => by rw [el_se, if_neg hq]
      have exq' : EXq N b (se τ4 85 n y) (n + 1) (fl τ4 16 0) (Kn ++ kn2) L.length seg cn o w z k := exq.cg (fun a i z1 z2 z3 z4 z5 => e a i (by omega)) (List.prefix_refl _) ⟨Int.le_refl _, Int.le_refl _⟩ ⟨Int.le_refl _, Int.le_refl _, Nat.le_refl _⟩
      have ak := ak_pat (N := N) (lo := n) (hi := fl τ4 16 0) (u := HLv (13 - x) + (w + 2)) (v := HLv (13 - x) + (z + 1)) (k := k + 3) (e := 0) (δ := 0) (c := cn) hN hP ⟨cnb.1, by omega, cnb.2.2⟩ (by omega) (by rw [e 94 cn (by omega)]; exact c94) rfl (exq'.use hx) (by
        rw [e 85 cn (by omega), e487.2]
        exact ak_nil (N := N) (U := UDl N x) (ℓ := 12 - x) (τp := se τ4 85 n y) (vlo := bV b) (lo := fl τ4 16 0) (hi := fl τ4 16 0) (P := bP b) (Kn := Kn ++ kn2) (j := L.length + seg.length) (u := HLv (13 - x) + (w + 2)) (v := HLv (13 - x) + (z + 1)) (k := 1) (δ := 0) (ins := []) (avq := []) hN (by omega) (Nat.le_refl _)) ⟨by omega, by omega⟩ ⟨by omega, by omega⟩ ⟨by omega, by omega, by omega⟩ ⟨by omega, by omega, by omega⟩ (by omega) (by omega) ⟨Int.le_refl _, by omega⟩ (by omega)
      rw [List.append_nil] at ak
      exact tk_args (k1 := k + 3) hN nd ⟨by rw [e 94 n (by omega), e494]; decide, by rw [e 94 n (by omega), e494]; decide⟩ (by rw [e 87 n (by omega)]; exact e487.1) ak (by omega) (Nat.le_refl _)
    have pf5 : PCf π' σ5 (nn π) 21 (fl σ 186 1) (fl σ 185 1) 0 0 0 := by
      obtain ⟨v1, v2, v3, v4, v5, v6, v7⟩ := g1
      exact ⟨v1, by rw [kf 120 _ (by omega)]; exact v2, by rw [kf 121 _ (by omega)]; exact v3, by rw [kf 122 _ (by omega)]; exact v4, by rw [kf 123 _ (by omega)]; exact v5, by rw [kf 124 _ (by omega)]; exact v6, by rw [kf 125 _ (by omega)]; exact v7⟩
    have f129 : fl σ5 129 (nn π) = (nn π : Int) + 1 := by rw [kf 129 _ (by omega)]; exact ar
    have f127 : fl σ5 127 (nn π) = -1 := by rw [kf 127 _ (by omega), g3]; exact pf3.2.2.2
    rw [← hpc] at pf5 m2 f129 f127 cls g1 hA1
    have hap : ∀ q : Nat, APs N (bD b) (bP b) (bV b) n (fl τ4 16 0) 1 1 1 2 6 60 (Uoe dl b) [(cn, o)] 11 n (nn π) (nn π') pc π' σ5 τ4 (fun π σ p => Pc_apply N (Pc_applyC N q) π σ pc (bD b) p) := fun q => aps_op (N := N) (rA := Pc_applyC N q) (D := bD b) (P := bP b) (vlo := bV b) (lo := n) (hi := fl τ4 16 0) (n := n) (s0 := nn π) (s1 := nn π') (ex := pc) (Uo := Uoe dl b) (av := [(cn, o)]) (F := cn) (τ := τ4) hN pf5 m2 ⟨by rw [hpc]; exact Int.le_refl _, by omega⟩ ⟨by rw [f129, hpc]; omega, by rw [f129]; exact hA1⟩ nd (by rw [e493]; exact tk.2.1.symm) ⟨by rw [e4n 92 (by omega) (by omega)]; exact h92, ki.1⟩ e494 e487.1 cnb.1 (by simp)
    refine ⟨π', σ5, τ4, pc, 1 + t + 1, cls, (rl1.tr q2).tr (RLp.one u2 ⟨hd.1, by omega⟩ u1.2.2.1.2 ⟨by rw [fd 74 (by omega) (by omega)]; exact ewd.1, by omega, by omega⟩ turn2), e05, by rw [← hn] at rd2 ⊢; exact rd2.tr rd24 (Int.le_refl _) (Int.le_refl _), Or.inr ⟨seg, kn2, n, [(cn, o)], w + 2, z + 1, k + 4, 1, 1, 1, 2, 6, 60, x6, ⟨?_, ?_, ?_⟩, ⟨by omega, by omega⟩, by rw [e494]; decide, by rw [← hn]; exact fq, fun q hq => ?_, u8, ⟨g1.1, by omega, by rw [f127]; omega⟩, fun q hq => ?_, ?_, ?_, ⟨by omega, by omega, ?_⟩⟩⟩
    · rw [hτ4, fl_sfs, f3, u2]; omega
    · rw [hτ4, fl_sfn _ _ _ _ (by decide), fl_sfs]
    · rw [f4 13 (by decide) (by decide), u4, hop]
    · have : q = (cn, o) := by simpa using hq
      rw [this]
      exact ⟨by omega, by omega, cnb.2.2⟩
    · obtain ⟨q', rfl⟩ : ∃ q', q = q' + 1 := ⟨q - 1, by omega⟩
      rw [← hn]
      exact hap q'
    · rw [lf4, hop]
      exact ⟨⟨by omega, by omega⟩, ⟨by omega, by omega⟩, ⟨by omega, by omega⟩, ⟨by omega, by omega⟩⟩
    · rw [lf4, f16]
      exact ⟨by push_cast; omega, by push_cast; omega, by omega, by omega, by push_cast; omega, by omega⟩
    · rw [lf4]
      have v1 := u11.1
      have v2 := u11.2
      exact ⟨by omega, by omega⟩
end PO9
