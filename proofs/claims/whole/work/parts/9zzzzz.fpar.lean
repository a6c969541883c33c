/-! FUNs: in brackets -/
section FZ9
variable {N : Nat} {b : Bse} {Xo : Int → Prop} {dl : List (Int × Int)} {rA rF : Sh → St → Option (Sh × St × Int)}
/-- a fault with a little room -/
theorem EXs.flt {π : Sh} {σ τ σ1 : St} {L : List Stq} {Kn : List Int} {d f p sl : Int} {t : Nat} (hc : CTX b dl) (h : XEs b Xo π σ τ L Kn) (k : ERf σ σ1) (k1 : ∀ g : Nat, g = 181 ∨ (184 ≤ g ∧ g ≤ 190) → fl σ1 g 1 = fl σ g 1) (hf : 1 ≤ f ∧ f ≤ 4) (ht : t ≤ 100) (hs : 0 ≤ sl ∧ sl ≤ 1 ∧ sl ≤ lf τ) : EFt (bX b) (bY b) π σ π (sf (sf σ1 182 1 f) 183 1 p) ∧ RDr (fl τ 16 0) d τ (sf (sf τ 11 0 f) 12 0 p) ∧ EXs b Xo L Kn sl π σ τ π (sf (sf σ1 182 1 f) 183 1 p) (sf (sf τ 11 0 f) 12 0 p) t := by
  have lx := h.lt hc
  have op20 := h.2.2.2.1
  obtain ⟨q1, q2, q3⟩ := EXo.flt (N := 0) (dl := dl) (d := d) (c := 1) (v := 0) (f := f) (p := p) (o := 0) (t := t) hc h k k1 (RDr.rf (fl τ 16 0) d τ) hf (by omega) (Int.le_refl _)
  refine ⟨q1, q2, ?_⟩
  have kk : ERf σ (sf (sf σ1 182 1 f) 183 1 p) := (k.tr (ERf.sf _ 182 1 f (by omega))).tr (ERf.sf _ 183 1 p (by omega))
  rcases q3 with ⟨w1, w2, w3⟩ | w
  · exact ⟨w1.mono (by omega) (by omega), RmE.er kk ⟨lx.1.1, lx.1.2.2.1⟩ lx.2.1 ⟨by omega, by omega⟩, by omega⟩
  · exfalso
    obtain ⟨seg, kn, n, w', z, k', g1, -⟩ := w
    have := g1.2.2.1.2
    rw [fl_sfn _ _ _ _ (by decide), fl_sfs] at this
    omega
set_option maxHeartbeats 2000000 in
theorem fun_par {op d : Int} {π : Sh} {σ τ : St} {L : List Stq} {Kn : List Int} (hN : 30000001 ≤ N) (hc : CTX b dl) (hW : WTr b.2.2.1) (hA : op < 20 → ARH N b dl 5 1 0 11 rA (op + 1)) (hF : op < 20 → FUH N b dl rF (op + 1)) (h : XEs b Xo π σ τ L Kn) (hop : fl τ 13 0 = op) (hK : FRx τ d 8) (hd : 0 ≤ d ∧ d ≤ 10 * op + 12) (hB : PRE τ L Kn) (h40 : fl σ 185 1 = 40) : ∃ π' σ' τ' fc t, Rd_fun N rA rF π σ = some (π', σ', fc) ∧ RLp N t τ τ' ∧ FPe N b dl Xo d L Kn π σ τ π' σ' τ' fc t := by
  have h4 := h.2.2.2.1
  have hB0 := hB
  obtain ⟨b1, b2, b3⟩ := hB
  have tk := h.2.1
  have l1 := tk.lf
  have lt := h.lt hc
  have kd := tk.kd
  have f0 := h.2.2.1
  have v16 := h.2.2.2.2.2.2.2.2.1
  have bv : 0 ≤ bV b := by obtain ⟨-, -, -, -, -, -, -, -, -, q⟩ := hc; exact q
  by_cases c20 : op = 20
  · -- too deep
    obtain ⟨q1, q2, q3⟩ := EXs.flt (dl := dl) (d := d) (f := 4) (p := fl τ 4 0) (t := 1) (sl := 1) hc h (ERf.rf σ) (fun _ _ => rfl) (by omega) (by omega) ⟨by omega, by omega, by omega⟩
    refine ⟨π, _, _, -1, 1, ?_, RLp.one hK.1 ⟨hd.1, by omega⟩ f0.2 ⟨hK.2.1, by omega, by omega⟩ ?_, q1, q2, Or.inl q3⟩
    · rw [Rd_fun, grd_t kd.1, if_neg (by omega), if_pos h40, Sc_opens, grd_t (by exact ⟨by omega, by omega⟩), if_neg (by omega), c_fail (by rw [f0.1]; decide), Option.bind_some, Option.bind_some]
      simp only
      rw [grd_t (by decide), if_pos trivial, flS, if_pos f0.1, tk.2.1]
    · show r_readPieces N τ d = _
      rw [r_readPieces, grd_t (by exact ⟨hd.1, by omega⟩), hK.2.2, grd_t (by decide), if_pos rfl, r_isOpen, grd_t (by exact ⟨by omega, by omega⟩), if_pos (by omega), r_fail0 f0.2, Option.bind_some, Option.bind_some]
      simp only
      rw [grd_t (by decide), if_pos trivial]
  have hop' : op < 20 := by omega
  -- it opens
  obtain ⟨n, hn⟩ : ∃ n, n = fl τ 16 0 := ⟨_, rfl⟩
  obtain ⟨σo, hσo⟩ : ∃ σo, σo = sf σ 184 1 (fl σ 184 1 + 1) := ⟨_, rfl⟩
  obtain ⟨τp, hτp⟩ : ∃ τp, τp = sf τ 13 0 (fl τ 13 0 + 1) := ⟨_, rfl⟩
  have p16 : fl τp 16 0 = n := by rw [hτp, fl_sfn _ _ _ _ (by decide), hn]
  have p4 : fl τp 4 0 = fl τ 4 0 := by rw [hτp, fl_sfn _ _ _ _ (by decide)]
  obtain ⟨τo, hτo⟩ : ∃ τo, τo = se (se (nwN τp 11 (fl τ 4 0)) 73 d n) 72 d 1 := ⟨_, rfl⟩
  have ero : ERf σ σo := by rw [hσo]; exact ERf.sf _ 184 1 _ (by omega)
  have rdo : RDr n d τ τo := by
    rw [hτo]
    refine ((nwN_rd ?_ 11 _ (by omega)).sp 73 d n (by omega) (Int.le_refl _)).sp 72 d 1 (by omega) (Int.le_refl _)
    rw [hτp]
    exact (RDr.rf _ _ τ).sf 13 _ (by omega)
  have fo : ∀ g : Nat, g ≠ 13 → g ≠ 16 → fl τo g 0 = fl τ g 0 := fun g hg h16 => by rw [hτo, fl_se, fl_se, nwN_fl _ _ _ _ _ h16, hτp, fl_sfn _ _ _ _ hg]
  have o13 : fl τo 13 0 = op + 1 := by rw [hτo, fl_se, fl_se, nwN_fl _ _ _ _ _ (by decide), hτp, fl_sfs, hop]
  have o16 : fl τo 16 0 = n + 1 := by rw [hτo, fl_se, fl_se, nwN_16, p16]
  have so : ∀ g : Nat, g ≠ 184 → fl σo g 1 = fl σ g 1 := fun g hg => by rw [hσo, fl_sfn _ _ _ _ hg]
  have o184 : fl σo 184 1 = op + 1 := by rw [hσo, fl_sfs]; omega
  have ho : XEs b Xo π σo τo L Kn := by
    refine h.mv hc ero rdo (by omega) hd.1 (by omega) ⟨by rw [so 182 (by decide)]; exact f0.1, by rw [fo 11 (by decide) (by decide)]; exact f0.2⟩ ⟨by omega, by omega, by omega⟩ ?_
    exact tk.rd (fun g hg => so g (by omega)) (fun j => ero.2 2 j) rdo (fun g hg => fo g (by omega) (by omega))
  obtain ⟨σ1, τ1, a1, a2, a3, a4, a5, a6, a7, -⟩ := ho.adv (N := N) (by omega) hc (by rw [so 185 (by decide)]; omega)
  have adv1 : lf τ1 + 1 ≤ lf τ := by
    have q1 : fl τ1 1 0 = fl τ 1 0 := by rw [a5.1 1 0 (by omega), fo 1 (by decide) (by decide)]
    have q2 : fl τo 4 0 = fl τ 4 0 := fo 4 (by decide) (by decide)
    have q3 : fl σo 185 1 = 40 := by rw [so 185 (by decide)]; exact h40
    unfold lf
    omega
  have t41 : fl τ1 41 0 = d + 1 := by rw [a5.1 41 0 (by omega), fo 41 (by decide) (by decide)]; exact hK.1
  have t16 : fl τ1 16 0 = n + 1 := by rw [a5.1 16 0 (by omega), o16]
  have t13 : fl τ1 13 0 = op + 1 := by rw [a5.1 13 0 (by omega), o13]
  obtain ⟨τ2, hτ2⟩ : ∃ τ2, τ2 = nwF τ1 9 (-1) 0 := ⟨_, rfl⟩
  have rd2 : RDr n (d + 1) τ1 τ2 := by rw [hτ2]; exact nwF_rd (RDr.rf _ _ _) _ _ _ (by omega)
  have f2 : ∀ g : Nat, g ≠ 41 → fl τ2 g 0 = fl τ1 g 0 := fun g hg => by rw [hτ2]; exact nwF_fl _ _ _ _ _ _ hg
  have nv := nwF_v τ1 9 (-1) 0
  rw [t41, ← hτ2] at nv
  have x2 : XEs b Xo π σ1 τ2 L Kn := a3.rt hc rd2 (by omega) (by omega) (by rw [f2 16 (by decide), t16]; omega) (fun g hg => f2 g (by omega))
  have lf2 : lf τ2 = lf τ1 := by unfold lf; rw [f2 1 (by decide), f2 4 (by decide)]
  have l2 := x2.2.1.lf
  have g16 : fl τ2 16 0 = n + 1 := by rw [f2 16 (by decide), t16]
  have step1 : rdK N 8 τ d = some τ2 := by
    show r_readPieces N τ d = _
    rw [r_readPieces, grd_t (by exact ⟨hd.1, by omega⟩), hK.2.2, grd_t (by decide), if_pos rfl, r_isOpen, grd_t (by exact ⟨by omega, by omega⟩), if_neg (by omega), Option.bind_some]
    simp only
    rw [grd_t (by decide), if_neg (by decide), ← hτp, r_node' ⟨by omega, by omega⟩, Option.bind_some]
    simp only [bnd]
    rw [p16, p4, ← hτo, a2, Option.bind_some, r_begin' ⟨by omega, by omega⟩, Option.bind_some, hτ2]
  have turn1 : RLp N 1 τ τ2 := RLp.one hK.1 ⟨hd.1, by omega⟩ f0.2 ⟨hK.2.1, by omega, by omega⟩ step1
  have r2 : RDr n d τ τ2 := (rdo.tr (RDr.sc (lo := n) (d := d) a5) (Int.le_refl _) (Int.le_refl _)).tr rd2 (Int.le_refl _) (by omega)
  have q41 : fl τ2 41 0 = d + 2 := by rw [hτ2, nwF_41, t41]; omega
  have e1 : EFt (bX b) (bY b) π σ π σ1 := EFt.rd (ero.tr (ERf.sc a4)) ⟨lt.1.1, lt.1.2.2.1⟩
  have rm1 : RmE (bX b) (bY b) π σ π σ1 0 0 := RmE.er (ero.tr (ERf.sc a4)) ⟨lt.1.1, lt.1.2.2.1⟩ lt.2.1 ⟨by omega, by omega⟩
  have m2 := rm1.2
  have e2 : ∀ a i : Int, ¬ (71 ≤ a ∧ a ≤ 74 ∧ d + 1 ≤ i) → el τ2 a i = el τo a i := fun a i hq => by rw [hτ2, nwF_el _ _ _ _ _ _ (by omega), a5.2]
  have nvn := nwN_v τp 11 (fl τ 4 0)
  rw [p16] at nvn
  have eN : ∀ a : Int, 84 ≤ a → a ≤ 94 → el τ2 a n = el (nwN τp 11 (fl τ 4 0)) a n := fun a z1 z2 => by rw [e2 a n (by omega), hτo, el_sen _ _ _ _ (by omega), el_sen _ _ _ _ (by omega)]
  have ed : el τ2 74 d = 8 ∧ el τ2 72 d = 1 ∧ el τ2 73 d = n := by
    rw [e2 74 d (by omega), e2 72 d (by omega), e2 73 d (by omega), hτo]
    refine ⟨?_, el_ses _ _ _ _, ?_⟩
    · rw [el_sen _ _ _ _ (by decide), el_sen _ _ _ _ (by decide), nwN_el _ _ _ _ _ (by omega), hτp, el_sf]; exact hK.2.1
    · rw [el_sen _ _ _ _ (by decide), el_ses]
  have pla : PLA N b dl Xo op d n L Kn π σ τ π σ1 τ2 [] [] (-1) 0 0 0 0 0 0 0 0 1 := by
    refine ⟨by rw [show egs [] = ([] : List Stq) from rfl, List.append_nil, List.append_nil]; exact x2, e1, r2, ⟨q41, ed.1, ed.2.1, ed.2.2⟩, ⟨nv.1, nv.2.2.1, nv.2.1⟩, by rw [f2 13 (by decide)]; exact t13, ⟨hn, by omega⟩, by rw [eN 94 (by omega) (by omega)]; exact nvn.1, by show n + 1 ≤ fl τ2 16 0; omega, ⟨by show el τ2 87 n = -1; rw [eN 87 (by omega) (by omega)]; exact nvn.2.2.2.2.2.2.2.1, Or.inl rfl⟩, fun y hy => absurd hy (by simp [egs]), fun y hy => absurd hy (by simp), fun q _ => CHa.none, fun x hx => absurd hx (by simp), ⟨fun _ => rfl, fun _ => rfl⟩, ?_, ⟨⟨by omega, by omega⟩, ⟨by omega, by omega⟩⟩, ⟨?_, ?_, ?_, ?_, ?_, ?_⟩, ⟨Int.le_refl _, Int.le_refl _⟩, by omega, by omega⟩
    · show 0 ≤ _; omega
    · show ((1 : Nat) : Int) + ((0 : Nat) : Int) + 12 * lf τ2 + 10 * ((0 : Nat) : Int) + 10 ≤ 12 * lf τ; omega
    · show ((0 : Nat) : Int) + ((0 : Nat) : Int) + 2 * lf τ2 + 2 ≤ 2 * lf τ; omega
    · show ((0 : Nat) : Int) + lf τ2 + 1 ≤ lf τ; omega
    · omega
    · omega
    · show 2 * ((0 : Nat) : Int) + lf τ2 + 1 ≤ lf τ; omega
  obtain ⟨π', σ', τ', fc, t, u1, u2, u3⟩ := pl_go (rA := rA) (rF := rF) hN hc hW (hA hop') (hF hop') h hB0 ⟨hop, by omega, hop'⟩ hd (lf τ2).toNat (σp := σo) N (by omega) (by omega) (by rw [so 182 (by decide)]; exact f0.1) a1 pla
  refine ⟨π', σ', τ', fc, 1 + t, ?_, turn1.tr u2, u3⟩
  rw [Rd_fun, grd_t kd.1, if_neg (by omega), if_pos h40, Sc_opens, grd_t (by exact ⟨by omega, by omega⟩), if_pos (by omega), Option.bind_some]
  simp only
  rw [grd_t (by decide), if_neg (by decide), ← hσo]
  exact u1
end FZ9
