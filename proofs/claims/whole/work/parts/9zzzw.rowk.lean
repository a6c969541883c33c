/-! rows of expressions: the end of a row, and the next part -/
section RK9
variable {N : Nat} {b : Bse} {Xo : Int → Prop} {dl : List (Int × Int)} {lp : Nat → Sh → St → Int → Int → Option (Sh × St × Int)} {sub : Sh → St → Option (Sh × St × Int)}
set_option maxHeartbeats 4000000 in
theorem rowx_end {Kf cs vs op d r s place lw sp : Int} {L0 : List Stq} {Kn0 kn : List Int} {π0 π : Sh} {σ0 τ0 σ τ : St} {l : List Ech} {x : Ech} {T n : Nat} (hN : 30000001 ≤ N) (hc : CTX b dl) (h0 : XEs b Xo π0 σ0 τ0 L0 Kn0) (hB0 : PRE τ0 L0 Kn0) (hop : fl τ0 13 0 = op) (hK : (Kf = 1 ∧ sp = 38) ∨ (Kf = 2 ∧ sp = 59)) (hlp : LPo N Kf sp s sub lp) (hv : 0 ≤ vs ∧ vs ≤ 3) (hcs : 0 ≤ cs) (hd : 0 ≤ d ∧ d < 500) (h : RWH N b dl Xo Kf cs vs op d r s place L0 Kn0 π0 σ0 τ0 π σ τ l x kn lw T) (hs : fl σ 185 1 ≠ sp) (hn : 1 ≤ n) : ∃ π' σ' o' τ' t, lp n π σ s l.length = some (π', σ', o') ∧ RLp N t τ τ' ∧ EXo N b dl Xo L0 Kn0 d (cs + 3) (vs + 1) π0 σ0 τ0 π' σ' τ' o' (T + t) := by
  obtain ⟨a1, a2, a3, a4, a5, a6, a7, a8, a9, a10, a11, a12, a13, a14, a15, a16, a17, b1, b2, b3, b4, b5, b6, b7, b8, b9⟩ := h
  have l0 := h0.2.1.lf
  have l1 := a1.2.1.lf
  have n01 := a3.1.1
  have nb := h0.2.2.2.2.2.2.1.1.1
  have m1' : 1 ≤ l.length := by cases l with | nil => exact absurd rfl a17 | cons y ys => simp
  unfold PRE at hB0
  have opb := h0.2.2.2.1
  have v16 := h0.2.2.2.2.2.2.2.2.1
  have bv : 0 ≤ bV b := by obtain ⟨-, -, -, -, -, -, -, -, -, q⟩ := hc; exact q
  have hP : bP b ≤ 4 := by obtain ⟨-, -, -, -, ⟨q, -⟩, -⟩ := hc; exact q.2
  have hX : ∀ x, Xo x → x < nn π0 := fun x hx => (h0.2.2.2.2.2.1.2.2.2.2.2.2.2.1 x hx).2
  obtain ⟨n', rfl⟩ : ∃ n', n = n' + 1 := ⟨n - 1, by omega⟩
  have ll : ((l ++ [x]).length : Int) = l.length + 1 := by simp
  have bd := a1.2.2.2.2.2.1
  have n56 := a1.1.1
  have x23 := a1.x hc
  obtain ⟨π4, σ4, d1, d2, d3, d4, d5, d6⟩ := a2.add (N := N) (a := (l ++ [x]).length) bd (by
    intro w
    have w2 := eopz_len (l ++ [x])
    rw [w] at w2
    simp at w2) (by rw [eopz_len]; simp; omega) hX (by rw [List.length_append]; omega) n56
  rw [x23.1] at d3 d6
  have lx := a1.lt hc
  have h44 := a1.2.2.2.2.1
  have fz := a1.2.2.1
  have tk := a1.2.1
  -- the reference's turn
  have xc : (0 ≤ eC x ∧ eC x < 32768) ∧ eL x ≤ eC x ∧ eC x < eH x := a10.1
  have loe := a8.le.1
  have hi86 := ECn.h a8 a9 ⟨by omega, by omega⟩ a17
  obtain ⟨τb, hb⟩ : ∃ τb, τb = se (apN τ r (eC x)) 92 r (el (apN τ r (eC x)) 92 r + 1) := ⟨_, rfl⟩
  obtain ⟨u1, u2, u3, u4, u5, u6⟩ := row_turn (d := d) (hi' := fl τ 16 0) a8 a9 a10 rfl a13 (Int.le_refl _) (by omega) ⟨by omega, by omega, a12.1⟩ τb hb
  have turn := rr_rowB (N := N) tk hK hd a5.2.2.1 a5.2.2.2 a6 ⟨by omega, by omega⟩ ⟨xc.1.1, xc.1.2⟩ (Or.inr hi86.1) hi86.2.1
  rw [if_neg hs, ← hb] at turn
  obtain ⟨τ5, h5⟩ : ∃ τ5, τ5 = sf (sf τb 46 0 r) 41 0 (fl τ 41 0 - 1) := ⟨_, rfl⟩
  rw [← h5] at turn
  have rd5 : RDr (fl τ0 16 0) d τ τ5 := by rw [h5]; exact (u5.sf 46 r (by omega)).sf 41 _ (by omega)
  have f5 : ∀ g : Nat, g ≠ 46 → g ≠ 41 → fl τ5 g 0 = fl τ g 0 := fun g z1 z2 => by rw [h5, fl_sfn _ _ _ _ z2, fl_sfn _ _ _ _ z1, u4]
  have e5 : ∀ a i, el τ5 a i = el τb a i := fun a i => by rw [h5, el_sf, el_sf]
  have lf5 : lf τ5 = lf τ := by unfold lf; rw [f5 1 (by decide) (by decide), f5 4 (by decide) (by decide)]
  have e4 : EFt (bX b) (bY b) π σ π4 σ4 := EFt.lx d3 ⟨lx.1.2.2.2.1, fun w => lx.1.2.2.2.2 w.symm⟩
  have x4 : XEs b Xo π4 σ4 τ5 (L0 ++ (egs (l ++ [x]) ++ [(Kf + 4, place, ((l ++ [x]).length : Int), 0, 0, 0, 1, eopz (l ++ [x]))])) (Kn0 ++ kn) := by
    have w := a1.cl hc (X' := Xo) (L' := (L0 ++ egs (l ++ [x])) ++ [(Kf + 4, place, ((l ++ [x]).length : Int), 0, 0, 0, 1, eopz (l ++ [x]))]) (Kn' := Kn0 ++ kn) e4 (fun g => d3.2.1 g 1 (by omega) (by omega)) d4 h0.2.2.2.2.2.2.2.2.2
    rw [← List.append_assoc]
    exact w.rt hc rd5 (by omega) hd.1 (by rw [f5 16 (by decide) (by decide)]; omega) (fun g hg => f5 g (by omega) (by omega))
  have mk := row_make (N := N) (b := b) (τ := τ5) (Kn := Kn0 ++ kn) (lo := fl τ0 16 0) (hi := fl τ5 16 0) (r := r) (j := L0.length) (Kf := Kf) (place := place) (w := (lf τ0 - lf τ + 28 * (20 - op) + 2 * cs) / 2 + 2) (z := (lf τ0 - lf τ + 28 * (20 - op) + 2 * cs + 2) / 2) (l := l ++ [x]) hN hP (by omega) (by rw [f5 16 (by decide) (by decide)]; omega) (by rw [e5, u3.1]; exact a15.1) (by rw [e5, u3.2.1]; exact a15.2.1) (by rw [e5, u3.2.2, a15.2.2, ll]) (by
    rw [f5 16 (by decide) (by decide)]
    exact u1.cg (List.prefix_refl _) (fun y _ a i _ _ _ _ _ => e5 a i)) (by
    rw [f5 16 (by decide) (by decide)]
    exact ECn.mv u1 u2 ⟨e5 87 r, e5 86 r⟩ (Int.le_refl _) (fun y _ => ⟨e5 94 _, e5 85 _⟩)) (fun y hy => a13 y (by
      rcases List.mem_append.1 hy with w | w
      · exact Or.inl w
      · exact Or.inr (by simpa using w))) a14 b1 (by omega) (by simp; omega) (by simp; omega)
  have oe : bP b + ((L0 ++ egs (l ++ [x])).length : Int) = bP b + ((L0.length : Int) + (egs (l ++ [x])).length) := by rw [List.length_append]; push_cast; omega
  refine ⟨π4, σ4, _, τ5, 1, hlp.2 n' π σ _ π4 σ4 _ (by omega) (by omega) (by rw [fz.1]; decide) (fun _ => ⟨tk.kd.1, hs⟩) (by rw [h44]; exact d1) (by rw [h44]; exact d2), RLp.one a5.1 ⟨hd.1, by omega⟩ fz.2 ⟨a5.2.1, by omega, by omega⟩ turn, a3.tr e4, a4.tr rd5 (Int.le_refl _) (Int.le_refl _), Or.inr ⟨_, kn, r, _, _, _, x4, ⟨?_, ?_, ?_⟩, ?_, ?_, by rw [oe]; exact mk, ?_, ?_, ?_, ?_⟩⟩
  · rw [h5, fl_sfs, a5.1]; omega
  · rw [h5, fl_sfn _ _ _ _ (by decide), fl_sfs]
  · rw [f5 13 (by decide) (by decide), hop]; exact a7
  · rw [f5 16 (by decide) (by decide)]; omega
  · rw [e5, u3.1, a15.1]; omega
  · intro y hy h9
    rcases List.mem_append.1 hy with q | q
    · exact a16 y q h9
    · have : y = (Kf + 4, place, ((l ++ [x]).length : Int), 0, 0, 0, 1, eopz (l ++ [x])) := by simpa using q
      rw [this] at h9
      have h9' : Kf + 4 = 99 := h9
      omega
  · rw [EBg, lf5, hop, f5 16 (by decide) (by decide)]
    refine ⟨⟨by omega, by omega⟩, ⟨by omega, by omega⟩, ?_, by push_cast; omega, by omega, by omega⟩
    push_cast
    omega
  · rw [lf5, List.length_append]
    simp only [List.length_singleton]
    push_cast
    exact ⟨by omega, by omega⟩
  · rw [lf5]
    have p5 := a2.s.2.2.2.2
    rw [if_neg (by
      intro w
      have w2 := eopz_len (l ++ [x])
      rw [w] at w2
      simp at w2)] at p5
    have w210 := a2.s.1.2.2.2.2.2.2.1
    rw [eopz_len] at w210
    have cy4 : cpc π4 σ4 (bY b) = cpc π σ (bY b) := cpc_eq (d3.2.1 1 _ lx.1.2.2.2.1 (by omega)) d3.1 lx.2.1.2
    rw [ll] at w210
    exact ⟨by omega, by omega⟩
set_option maxHeartbeats 4000000 in
theorem row_next {Kf cs vs op d r s place lw sp : Int} {L0 : List Stq} {Kn0 kn : List Int} {π0 π : Sh} {σ0 τ0 σ τ : St} {l : List Ech} {x : Ech} {T : Nat} (hN : 30000001 ≤ N) (hc : CTX b dl) (h0 : XEs b Xo π0 σ0 τ0 L0 Kn0) (hB0 : PRE τ0 L0 Kn0) (hop : fl τ0 13 0 = op) (hK : (Kf = 1 ∧ sp = 38) ∨ (Kf = 2 ∧ sp = 59)) (hv : 0 ≤ vs ∧ vs ≤ 3) (hcs : 0 ≤ cs) (hd : 0 ≤ d ∧ d < 500) (h : RWH N b dl Xo Kf cs vs op d r s place L0 Kn0 π0 σ0 τ0 π σ τ l x kn lw T) (hs : fl σ 185 1 = sp) : ∃ σ' τ', Sc_advance N π σ = some σ' ∧ RLp N 1 τ τ' ∧ lf τ' + 1 ≤ lf τ ∧ RWA N b dl Xo Kf cs op d r s place L0 Kn0 π0 σ0 τ0 π σ' τ' (l ++ [x]) kn lw (T + 1) := by
  obtain ⟨a1, a2, a3, a4, a5, a6, a7, a8, a9, a10, a11, a12, a13, a14, a15, a16, a17, b1, b2, b3, b4, b5, b6, b7, b8, b9⟩ := h
  have l0 := h0.2.1.lf
  have n01 := a3.1.1
  have nb := h0.2.2.2.2.2.2.1.1.1
  unfold PRE at hB0
  have opb := h0.2.2.2.1
  have v16 := h0.2.2.2.2.2.2.2.2.1
  have bv : 0 ≤ bV b := by obtain ⟨-, -, -, -, -, -, -, -, -, q⟩ := hc; exact q
  have ll : ((l ++ [x]).length : Int) = l.length + 1 := by simp
  have lx := a1.lt hc
  have fz := a1.2.2.1
  have tk := a1.2.1
  have xc : (0 ≤ eC x ∧ eC x < 32768) ∧ eL x ≤ eC x ∧ eC x < eH x := a10.1
  have loe := a8.le.1
  have hi86 := ECn.h a8 a9 ⟨by omega, by omega⟩ a17
  obtain ⟨τb, hb⟩ : ∃ τb, τb = se (apN τ r (eC x)) 92 r (el (apN τ r (eC x)) 92 r + 1) := ⟨_, rfl⟩
  obtain ⟨u1, u2, u3, u4, u5, u6⟩ := row_turn (d := d) (hi' := fl τ 16 0) a8 a9 a10 rfl a13 (Int.le_refl _) (by omega) ⟨by omega, by omega, a12.1⟩ τb hb
  have turn := rr_rowB (N := N) tk hK hd a5.2.2.1 a5.2.2.2 a6 ⟨by omega, by omega⟩ ⟨xc.1.1, xc.1.2⟩ (Or.inr hi86.1) hi86.2.1
  rw [if_pos hs, ← hb] at turn
  have xb : XEs b (XR Xo σ s) π σ τb (L0 ++ egs (l ++ [x])) (Kn0 ++ kn) := a1.rt hc u5 (by omega) hd.1 (by rw [u4]; omega) (fun g _ => u4 g 0)
  have s5 : fl σ 185 1 ≠ 5 ∧ fl σ 185 1 ≠ 6 := by omega
  obtain ⟨σ', τ1, q1, q2, q3, q4, q5, q6, q7, -⟩ := xb.adv (N := N) (by omega) hc s5.1
  have g41 : fl τ1 41 0 = d + 1 := by rw [q5.1 41 0 (by omega), u4]; exact a5.1
  obtain ⟨τ', h'⟩ : ∃ τ', τ' = nwF τ1 (Kf + 1) (-1) 0 := ⟨_, rfl⟩
  rw [q2, Option.bind_some, r_begin' ⟨by omega, by omega⟩, ← h'] at turn
  have rd1 : RDr (fl τ0 16 0) d τ τ1 := u5.tr (RDr.sc (lo := fl τ0 16 0) (d := d) q5) (Int.le_refl _) (Int.le_refl _)
  have rd' : RDr (fl τ0 16 0) d τ τ' := by rw [h']; exact nwF_rd rd1 _ _ _ (by omega)
  have f' : ∀ g : Nat, g ≠ 41 → fl τ' g 0 = fl τ1 g 0 := fun g hg => by rw [h']; exact nwF_fl _ _ _ _ _ _ hg
  have f16 : fl τ' 16 0 = fl τ 16 0 := by rw [f' 16 (by decide), q5.1 16 0 (by omega), u4]
  have e' : ∀ a i : Int, ¬ (71 ≤ a ∧ a ≤ 74) → el τ' a i = el τb a i := fun a i ha => by rw [h', nwF_el _ _ _ _ _ _ (by omega), q5.2]
  have ed : ∀ a : Int, a < 85 → el τ' a d = el τ a d := fun a ha => by rw [h', nwF_el _ _ _ _ _ _ (by omega), q5.2, u6 a d ha]
  have nv := nwF_v τ1 (Kf + 1) (-1) 0
  rw [g41, ← h'] at nv
  have xr : XR Xo σ' s = XR Xo σ s := XR.eq (fun f z1 z2 => q4.1 f s (by omega))
  have x' : XEs b (XR Xo σ' s) π σ' τ' (L0 ++ egs (l ++ [x])) (Kn0 ++ kn) := by
    rw [xr]
    exact q3.rt hc (by rw [h']; exact nwF_rd (RDr.rf (bV b) 0 τ1) _ _ _ (by omega)) (Int.le_refl _) (Int.le_refl _) (by rw [f16]; omega) (fun g hg => f' g (by omega))
  have lf' : lf τ' + 1 ≤ lf τ := by
    have z1 : fl τ' 1 0 = fl τ 1 0 := rd'.1 1 0 (by omega) (by decide) (by decide) (by decide) (by decide)
    have z2 : fl τ' 4 0 = fl τ1 4 0 := f' 4 (by decide)
    have z3 : fl τb 4 0 = fl τ 4 0 := u4 4 0
    unfold lf
    omega
  have l1 := x'.2.1.lf
  have er : ERf σ σ' := ERf.sc q4
  refine ⟨σ', τ', q1, RLp.one a5.1 ⟨hd.1, by omega⟩ fz.2 ⟨a5.2.1, by omega, by omega⟩ turn, lf', x', a2.cg (ext.rf _) (fun f z1 z2 => q4.1 f s (by omega)) (fun a j _ => q4.2 a j), a3.tr (EFt.rd er ⟨lx.1.1, lx.1.2.2.1⟩), a4.tr rd' (Int.le_refl _) (Int.le_refl _), ⟨?_, by rw [ed 74 (by omega)]; exact a5.2.1, by rw [ed 72 (by omega)]; exact a5.2.2.1, by rw [ed 73 (by omega)]; exact a5.2.2.2⟩, ⟨nv.1, nv.2.2.1, nv.2.1⟩, ?_, ?_, ?_, ⟨a12.1, ?_⟩, ?_, a14, ⟨?_, ?_, ?_⟩, a16, by simp, ?_, ?_, ?_, ?_, ?_, ?_, ?_, ?_, ?_⟩
  · rw [h', nwF_41, g41]; omega
  · rw [f' 13 (by decide), q5.1 13 0 (by omega), u4]; exact a7
  · rw [f16]; exact u1.cg (List.prefix_refl _) (fun y _ a i z1 z2 _ _ _ => e' a i (by omega))
  · rw [f16]; exact ECn.mv u1 u2 ⟨e' 87 r (by omega), e' 86 r (by omega)⟩ (Int.le_refl _) (fun y _ => ⟨e' 94 _ (by omega), e' 85 _ (by omega)⟩)
  · rw [f16]; omega
  · intro y hy
    exact a13 y (by
      rcases List.mem_append.1 hy with w | w
      · exact Or.inl w
      · exact Or.inr (by simpa using w))
  · rw [e' 94 r (by omega), u3.1]; exact a15.1
  · rw [e' 93 r (by omega), u3.2.1]; exact a15.2.1
  · rw [e' 92 r (by omega), u3.2.2, a15.2.2, ll]
  · exact b1.mono (by omega) (by omega)
  · rw [ll]; omega
  · rw [f16]; omega
  · rw [ll]; omega
  · omega
  · push_cast; omega
  · rw [ll]; omega
  · have c1 : cpc π σ' (bX b) = cpc π σ (bX b) := cpc_eq (er.1 1 _ (by omega) (by omega) (by omega)) (ext.rf _) lx.2.1.1
    have c2 : cpc π σ' (bY b) = cpc π σ (bY b) := cpc_eq (er.1 1 _ (by omega) (by omega) (by omega)) (ext.rf _) lx.2.1.2
    have c3 : fl σ' 210 s = fl σ 210 s := q4.1 210 s (by omega)
    rw [ll, c3]
    omega
  · rw [ll]; omega
/-- the loop -/
theorem row_go {Kf cs vs op d r s place sp ds : Int} {L0 : List Stq} {Kn0 : List Int} {π0 : Sh} {σ0 τ0 : St} (hN : 30000001 ≤ N) (hc : CTX b dl) (h0 : XEs b Xo π0 σ0 τ0 L0 Kn0) (hB0 : PRE τ0 L0 Kn0) (hop : fl τ0 13 0 = op) (hK : (Kf = 1 ∧ sp = 38) ∨ (Kf = 2 ∧ sp = 59)) (hlp : LPo N Kf sp s sub lp) (hv : 0 ≤ vs ∧ vs ≤ 3) (hcs : 0 ≤ cs) (hd : 0 ≤ d ∧ d < 500 ∧ d + 1 ≤ 10 * op + ds) (hsub : ARH N b dl (Kf + 1) cs vs ds sub op) : ∀ (q : Nat) (π : Sh) (σ τ : St) (l : List Ech) (kn : List Int) (lw : Int) (T n : Nat), RWA N b dl Xo Kf cs op d r s place L0 Kn0 π0 σ0 τ0 π σ τ l kn lw T → lf τ ≤ q → lf τ < n → ∃ π2 σ2 o π3 σ3 π' σ' o' τ' t, sub π σ = some (π2, σ2, o) ∧ GVr N (Kf + 4) π2 σ2 s o π3 σ3 ∧ ob π2 s 10 ∧ lp n π3 σ3 s l.length = some (π', σ', o') ∧ RLp N t τ τ' ∧ EXo N b dl Xo L0 Kn0 d (cs + 3) (vs + 1) π0 σ0 τ0 π' σ' τ' o' (T + t)
  | 0, π, σ, τ, l, kn, lw, T, n, h, hq, hn => by have := h.1.2.1.lf; omega
  | q + 1, π, σ, τ, l, kn, lw, T, n, h, hq, hn => by
    obtain ⟨a1, a2, a3, a4, a5, a6, a7, a8, a9, a10, a11, a12, a13, a14, a15, b1, b2, b3, b4, b5, b6, b7, b8, b9⟩ := id h
    have l1 := a1.2.1.lf
    have l0 := h0.2.1.lf
    obtain ⟨π2, σ2, τ2, o, t, q1, q2, q3, q4, q5⟩ := hsub (XR Xo σ s) π σ τ (L0 ++ egs l) (Kn0 ++ kn) (d + 1) a1 a7 ⟨by omega, a6.1, a6.2.1⟩ ⟨by omega, by omega⟩ a6.2.2 (by
      unfold PRE at hB0 ⊢
      rw [List.length_append, List.length_append]
      push_cast
      exact ⟨by omega, by omega, by omega⟩)
    rcases q5 with f | f
    · exact row_fl hc h0 hB0 hop hlp hv h (by omega) q1 q2 q3 q4 f
    · obtain ⟨π3, σ3, x, kn3, lw3, c1, c2, c3⟩ := row_ok hc h0 hB0 hop hv hcs hd.1 h q3 q4 f
      have l3 := c3.1.2.1.lf
      have lt2 : lf τ2 + 1 ≤ lf τ := by
        obtain ⟨seg, kn2, n2, w, z, k, -, -, -, -, -, -, ⟨-, -, -, -, m7, -⟩, -⟩ := f
        exact m7
      by_cases e : fl σ3 185 1 = sp
      · obtain ⟨σ4, τ4, d1, d2, d3, d4⟩ := row_next hN hc h0 hB0 hop hK hv hcs ⟨hd.1, hd.2.1⟩ c3 e
        obtain ⟨n', rfl⟩ : ∃ n', n = n' + 1 := ⟨n - 1, by omega⟩
        obtain ⟨π5, σ5, o5, π6, σ6, π', σ', o', τ', t', e1, e2, e3, e4, e5, e6⟩ := row_go hN hc h0 hB0 hop hK hlp hv hcs hd hsub q π3 σ4 τ4 (l ++ [x]) kn3 lw3 (T + t + 1) n' d4 (by omega) (by omega)
        have ll : ((l ++ [x]).length : Int) = l.length + 1 := by simp
        have b9' : 2 * ((l.length : Int)) + lf τ ≤ lf τ0 := b9
        refine ⟨π2, σ2, o, π3, σ3, π', σ', o', τ', t + (1 + t'), q1, c1, c2, ?_, q2.tr (d2.tr e5), ?_⟩
        · rw [hlp.1 n' π3 σ3 _ σ4 π5 σ5 o5 π6 σ6 (by omega) (by omega) c3.1.2.2.1.1 e d1 e1 e2 e3, ← ll]
          exact e4
        · have et : T + (t + (1 + t')) = T + t + 1 + t' := by omega
          rw [et]
          exact e6
      · obtain ⟨n', rfl⟩ : ∃ n', n = n' + 1 := ⟨n - 1, by omega⟩
        obtain ⟨π', σ', o', τ', t', e1, e2, e3⟩ := rowx_end (n := n' + 1) hN hc h0 hB0 hop hK hlp hv hcs ⟨hd.1, hd.2.1⟩ c3 e (by omega)
        refine ⟨π2, σ2, o, π3, σ3, π', σ', o', τ', t + t', q1, c1, c2, ?_, q2.tr e2, ?_⟩
        · exact e1
        · have et : T + (t + t') = T + t + t' := by omega
          rw [et]
          exact e3
end RK9
