/-! a FUN that is wanted -/
/-- a FUN was read: its piece fc, its node -/
def FUk (N : Nat) (b : Bse) (dl : List (Int × Int)) (Xo : Int → Prop) (L : List Stq) (Kn : List Int) (d cw cz aw az th sl : Int) (ex : Int → Int) (run : Nat → Int → Sh → St → Int → Option (Sh × St × Int)) (π : Sh) (σ τ : St) (π' : Sh) (σ' τ' : St) (fc : Int) (t : Nat) : Prop := ∃ seg kn c av w z k m kA wA zA A B, XEs b Xo π' σ' τ' (L ++ seg) (Kn ++ kn) ∧ (fl τ' 41 0 = d ∧ fl τ' 46 0 = c ∧ fl τ' 13 0 = fl τ 13 0) ∧ (fl τ 16 0 ≤ c ∧ c < fl τ' 16 0) ∧ (9 ≤ el τ' 94 c ∧ el τ' 94 c ≤ 13) ∧ FUq N b τ' (fl τ 16 0) (fl τ' 16 0) (Kn ++ kn) L.length seg c av w z k ∧ (∀ q ∈ av, bV b ≤ q.1 ∧ fl τ 16 0 ≤ q.1 ∧ q.1 < fl τ' 16 0) ∧ (∀ y ∈ seg, y.1 = 99 → Uoe dl b y) ∧ (ob π' fc 6 ∧ nn π ≤ fc ∧ fl σ' 127 fc = -1 + th * (fl σ' 127 fc + 1)) ∧ (∀ q : Nat, 22 - th ≤ fl τ 13 0 + q → APs N (bD b) (bP b) (bV b) (fl τ 16 0) (fl τ' 16 0) m kA wA zA A B (Uoe dl b) av 11 c (nn π) (nn π') (ex fc) π' σ' τ' (run q fc)) ∧ ((0 ≤ w ∧ 2 * w + lf τ' ≤ lf τ + 28 * (20 - fl τ 13 0) + 2 * cw) ∧ (0 ≤ z ∧ 2 * z + lf τ' ≤ lf τ + 28 * (20 - fl τ 13 0) + 2 * cz) ∧ (0 ≤ wA ∧ 2 * wA + lf τ' ≤ lf τ + 28 * (20 - fl τ 13 0) + 2 * aw) ∧ (0 ≤ zA ∧ 2 * zA + lf τ' ≤ lf τ + 28 * (20 - fl τ 13 0) + 2 * az)) ∧ ((k : Int) + kA + 12 * lf τ' ≤ 12 * lf τ ∧ (seg.length : Int) + m + 2 * lf τ' ≤ 2 * lf τ ∧ (kn.length : Int) + lf τ' ≤ lf τ ∧ fl τ' 16 0 + 3 * lf τ' ≤ fl τ 16 0 + 3 * lf τ ∧ (t : Int) + 5 + 5 * sl + 20 * lf τ' ≤ 20 * lf τ ∧ lf τ' + 1 ≤ lf τ) ∧ (0 ≤ A ∧ 0 ≤ B ∧ RmE (bX b) (bY b) π σ π' σ' (12 * (lf τ - lf τ') - A - 10 * sl) (150 * (lf τ - lf τ') - B - 100 * sl))
/-- a FUN in brackets or by its name -/
def rFn (N : Nat) (b : Bse) (q : Nat) (fc : Int) (π : Sh) (σ : St) (p : Int) : Option (Sh × St × Int) := Pc_applyAll N (Pc_applyC N q) π σ fc (bD b) p
/-- a piece -/
def rPc (N : Nat) (b : Bse) (q : Nat) (pc : Int) (π : Sh) (σ : St) (p : Int) : Option (Sh × St × Int) := Pc_applyC N q π σ pc (bD b) p
/-- a fault, with some room left -/
def EXs (b : Bse) (Xo : Int → Prop) (L : List Stq) (Kn : List Int) (sl : Int) (π : Sh) (σ τ : St) (π' : Sh) (σ' τ' : St) (t : Nat) : Prop := XQ b Xo π' σ' τ' (L.length + 2 * lf τ + 4 * (20 - fl τ 13 0)) (Kn.length + lf τ) ∧ RmE (bX b) (bY b) π σ π' σ' (12 * lf τ + 60 * (20 - fl τ 13 0) - 10 * sl) (150 * lf τ + 600 * (20 - fl τ 13 0) - 100 * sl) ∧ (t : Int) + 5 * sl ≤ 20 * lf τ + 200
def FUo (N : Nat) (b : Bse) (dl : List (Int × Int)) (Xo : Int → Prop) (L : List Stq) (Kn : List Int) (d : Int) (π : Sh) (σ τ : St) (π' : Sh) (σ' τ' : St) (fc : Int) (t : Nat) : Prop := EFt (bX b) (bY b) π σ π' σ' ∧ RDr (fl τ 16 0) d τ τ' ∧ (EXs b Xo L Kn (if fl σ 185 1 = 40 then 1 else 0) π σ τ π' σ' τ' t ∨ FUk N b dl Xo L Kn d 1 3 4 6 1 (if fl σ 185 1 = 40 then 1 else 0) (fun _ => -1) (rFn N b) π σ τ π' σ' τ' fc t)
def PIo (N : Nat) (b : Bse) (dl : List (Int × Int)) (Xo : Int → Prop) (L : List Stq) (Kn : List Int) (d : Int) (π : Sh) (σ τ : St) (π' : Sh) (σ' τ' : St) (fc : Int) (t : Nat) : Prop := EFt (bX b) (bY b) π σ π' σ' ∧ RDr (fl τ 16 0) d τ τ' ∧ ((EXf b Xo L Kn 0 π σ τ π' σ' τ' t ∧ (fc < 0 ∨ (ob π' fc 6 ∧ nn π ≤ fc))) ∨ FUk N b dl Xo L Kn d 3 5 6 7 0 0 (fun x => x) (rPc N b) π σ τ π' σ' τ' fc t)
/-- reading a FUN -/
def FUH (N : Nat) (b : Bse) (dl : List (Int × Int)) (rF : Sh → St → Option (Sh × St × Int)) (op : Int) : Prop := ∀ (Xo : Int → Prop) (π : Sh) (σ τ : St) (L : List Stq) (Kn : List Int) (d : Int), XEs b Xo π σ τ L Kn → fl τ 13 0 = op → FRx τ d (if fl σ 185 1 = 40 then 8 else 7) → (0 ≤ d ∧ d ≤ 10 * op + 12) → el τ 73 d = -1 → PRE τ L Kn → ∃ π' σ' τ' fc t, rF π σ = some (π', σ', fc) ∧ RLp N t τ τ' ∧ FUo N b dl Xo L Kn d π σ τ π' σ' τ' fc t
section FU9
variable {N : Nat} {b : Bse} {dl : List (Int × Int)} {rF : Sh → St → Option (Sh × St × Int)}
theorem FUk.up {Xo : Int → Prop} {L : List Stq} {Kn : List Int} {d d' cw cz aw az th sl : Int} {ex : Int → Int} {run : Nat → Int → Sh → St → Int → Option (Sh × St × Int)} {π π' : Sh} {σ τ τ1 σ' τ' τ'' : St} {fc : Int} {t t' : Nat} (hc : CTX b dl) (h : FUk N b dl Xo L Kn d cw cz aw az th sl ex run π σ τ1 π' σ' τ' fc t) (h1 : lf τ1 = lf τ ∧ fl τ1 13 0 = fl τ 13 0 ∧ fl τ1 16 0 = fl τ 16 0) (hs : 0 ≤ sl) (hr : RDr (bV b) 0 τ' τ'') (h2 : fl τ'' 41 0 = d' ∧ ∀ g : Nat, g ≠ 41 → fl τ'' g 0 = fl τ' g 0) (h3 : ∀ a i : Int, 84 ≤ a → el τ'' a i = el τ' a i) (P5 : (t' : Int) + 5 + 20 * lf τ' ≤ 20 * lf τ) : FUk N b dl Xo L Kn d' cw cz aw az th 0 ex run π σ τ π' σ' τ'' fc t' := by
  obtain ⟨seg, kn, c, av, w, z, k, m, kA, wA, zA, A, B, g1, ⟨g2, g3, g4⟩, g5, g6, g7, g8, g9, g10, g11, g12, ⟨y1, y2, y3, y4, y5, y6⟩, g13⟩ := h
  have l2 : lf τ'' = lf τ' := by unfold lf; rw [h2.2 1 (by decide), h2.2 4 (by decide)]
  have f16 := h2.2 16 (by decide)
  rw [h1.1] at g12 y1 y2 y3 y4 y5 y6 g13
  rw [h1.2.1] at g12 g4
  rw [h1.2.2] at y4 g5 g7 g8
  refine ⟨seg, kn, c, av, w, z, k, m, kA, wA, zA, A, B, g1.rt hc hr (Int.le_refl _) (Int.le_refl _) (by rw [f16]; exact g1.2.2.2.2.2.2.2.2.1) (fun g hg => h2.2 g (by omega)), ⟨h2.1, by rw [h2.2 46 (by decide)]; exact g3, by rw [h2.2 13 (by decide)]; exact g4⟩, by rw [f16]; exact g5, by rw [h3 94 c (by omega)]; exact g6, by rw [f16]; exact g7.cg (fun a i x1 _ _ _ _ => h3 a i (by omega)) (List.prefix_refl _) ⟨Int.le_refl _, Int.le_refl _⟩ ⟨Int.le_refl _, Int.le_refl _, Nat.le_refl _⟩, by rw [f16]; exact g8, g9, g10, fun q hq => ?_, by rw [l2]; exact g12, ⟨by rw [l2]; exact y1, by rw [l2]; exact y2, by rw [l2]; exact y3, by rw [l2, f16]; exact y4, by rw [l2]; omega, by rw [l2]; exact y6⟩, by rw [l2]; exact ⟨g13.1, g13.2.1, g13.2.2.mono (by omega) (by omega)⟩⟩
  have w := g11 q (by rw [h1.2.1]; exact hq)
  rw [h1.2.2] at w
  rw [f16]
  exact w.at (PFx.rf _ _ _ _ _) (fun a i x1 _ _ _ _ => h3 a i (by omega))
/-- the frame of a FUN round one in brackets -/
theorem fun_wrap {op : Int} (hc : CTX b dl) (hF : FUH N b dl rF op) (Xo : Int → Prop) (π : Sh) (σ τ : St) (L : List Stq) (Kn : List Int) (d : Int) (h : XEs b Xo π σ τ L Kn) (hop : fl τ 13 0 = op) (hK : FRx τ d 7) (hd : 0 ≤ d ∧ d ≤ 10 * op + 11) (h73 : el τ 73 d = -1) (hB : PRE τ L Kn) : ∃ π' σ' τ' fc t, rF π σ = some (π', σ', fc) ∧ RLp N t τ τ' ∧ EFt (bX b) (bY b) π σ π' σ' ∧ RDr (fl τ 16 0) d τ τ' ∧ ((XQ b Xo π' σ' τ' (L.length + 2 * lf τ + 4 * (20 - op)) (Kn.length + lf τ) ∧ RmE (bX b) (bY b) π σ π' σ' (12 * lf τ + 60 * (20 - op)) (150 * lf τ + 600 * (20 - op)) ∧ (t : Int) ≤ 20 * lf τ + 202) ∨ ∃ t', t ≤ t' + 2 ∧ FUk N b dl Xo L Kn d 1 3 4 6 1 0 (fun _ => -1) (rFn N b) π σ τ π' σ' τ' fc t') := by
  have opb := h.2.2.2.1
  have tk := h.2.1
  have f0 := h.2.2.1
  have v16 := h.2.2.2.2.2.2.2.2.1
  by_cases e : fl σ 185 1 = 40
  · obtain ⟨τ1, hτ1⟩ : ∃ τ1, τ1 = nwF (se τ 72 d 1) 8 (-1) 0 := ⟨_, rfl⟩
    have g41 : fl (se τ 72 d 1) 41 0 = d + 1 := by rw [fl_se]; exact hK.1
    have turn1 : rdK N 7 τ d = some τ1 := by
      show r_readFun N τ d = _
      rw [r_readFun, grd_t (by exact ⟨hd.1, by omega⟩), hK.2.2, grd_t (by decide), if_neg (by decide), tk.sign (c := 40) (by unfold isSgB; omega), Option.bind_some]
      simp only
      rw [if_pos e, grd_t (by decide), if_neg (by decide)]
      simp only [bnd]
      rw [r_begin' ⟨by omega, by omega⟩, Option.bind_some, hτ1]
    have rl1 : RLp N 1 τ τ1 := RLp.one hK.1 ⟨hd.1, by omega⟩ f0.2 ⟨hK.2.1, by omega, by omega⟩ turn1
    have f1 : ∀ g : Nat, g ≠ 41 → fl τ1 g 0 = fl τ g 0 := fun g hg => by rw [hτ1, nwF_fl _ _ _ _ _ _ hg, fl_se]
    have nv := nwF_v (se τ 72 d 1) 8 (-1) 0
    rw [g41, ← hτ1] at nv
    have r1 : RDr (fl τ 16 0) d τ τ1 := by rw [hτ1]; exact nwF_rd ((RDr.rf _ _ τ).sp 72 d 1 (by omega) (Int.le_refl _)) _ _ _ (by omega)
    have x1 : XEs b Xo π σ τ1 L Kn := h.rt hc r1 (by omega) hd.1 (by rw [f1 16 (by decide)]; exact v16) (fun g hg => f1 g (by omega))
    have lf1 : lf τ1 = lf τ := by unfold lf; rw [f1 1 (by decide), f1 4 (by decide)]
    have f13 := f1 13 (by decide)
    have f16 := f1 16 (by decide)
    have t41 : fl τ1 41 0 = d + 2 := by rw [hτ1, nwF_41, g41]; omega
    obtain ⟨π', σ', τ2, fc, t, q1, q2, q3, q4, q5⟩ := hF Xo π σ τ1 L Kn (d + 1) x1 (by omega) (by rw [if_pos e]; exact ⟨by omega, nv.1, nv.2.2.1⟩) ⟨by omega, by omega⟩ nv.2.1 (by unfold PRE at hB ⊢; rw [lf1, f16]; exact hB)
    have rd2 : RDr (fl τ 16 0) d τ τ2 := r1.tr q4 (by omega) (by omega)
    rcases q5 with f | f
    · obtain ⟨y1, y2, y3⟩ := f
      rw [if_pos e] at y2 y3
      rw [lf1, f13, hop] at y1 y2
      rw [lf1] at y3
      exact ⟨π', σ', τ2, fc, 1 + t, q1, rl1.tr q2, q3, rd2, Or.inl ⟨y1.mono (by omega) (by omega), y2.mono (by omega) (by omega), by push_cast; omega⟩⟩
    · have fk := f
      obtain ⟨seg, kn, c, av, w, z, k, m, kA, wA, zA, A, B, g1, ⟨g2, g3, g4⟩, g5, g6, g7, g8, g9, g10, g11, g12, ⟨y1, y2, y3, y4, y5, y6⟩, g13⟩ := f
      have fz2 := g1.2.2.1
      have fr : ∀ a : Int, 71 ≤ a → a ≤ 74 → el τ2 a d = el τ1 a d := fun a z1 z2 => q4.2.2.2 a d z1 z2 (by omega)
      have ed : el τ1 74 d = 7 ∧ el τ1 72 d = 1 := by
        rw [hτ1, nwF_el _ _ _ _ _ _ (by omega), nwF_el _ _ _ _ _ _ (by omega), el_sen _ _ _ _ (by decide), el_ses]
        exact ⟨hK.2.1, rfl⟩
      have turn2 : rdK N 7 τ2 d = some (sf (sf τ2 46 0 c) 41 0 d) := by
        show r_readFun N τ2 d = _
        rw [r_readFun, grd_t (by exact ⟨hd.1, by omega⟩), fr 72 (by omega) (by omega), ed.2, grd_t (by decide), if_pos rfl, r_finish', Option.bind_some, g3, g2]
        congr 2
        omega
      rw [lf1, if_pos e] at y5
      refine ⟨π', σ', _, fc, 1 + t + 1, q1, (rl1.tr q2).tr (RLp.one g2 ⟨hd.1, by omega⟩ fz2.2 ⟨by rw [fr 74 (by omega) (by omega)]; exact ed.1, by omega, by omega⟩ turn2), q3, (rd2.sf 46 c (by omega)).sf 41 d (by omega), Or.inr ⟨t, by omega, fk.up hc ⟨lf1, f13, f16⟩ (by rw [if_pos e]; decide) (((RDr.rf (bV b) 0 τ2).sf 46 c (by omega)).sf 41 d (by omega)) ⟨fl_sfs _ _ _ _, fun g hg => ?_⟩ (fun a i _ => rfl) (by omega)⟩⟩
      rw [fl_sfn _ _ _ _ hg]
      by_cases q : g = 46
      · rw [q, fl_sfs]; exact g3.symm
      · rw [fl_sfn _ _ _ _ q]
  · obtain ⟨π', σ', τ2, fc, t, q1, q2, q3, q4, q5⟩ := hF Xo π σ τ L Kn d h hop (by rw [if_neg e]; exact hK) ⟨hd.1, by omega⟩ h73 hB
    rcases q5 with f | f
    · obtain ⟨y1, y2, y3⟩ := f
      rw [if_neg e] at y2 y3
      rw [hop] at y1 y2
      exact ⟨π', σ', τ2, fc, t, q1, q2, q3, q4, Or.inl ⟨y1.mono (by omega) (by omega), y2.mono (by omega) (by omega), by omega⟩⟩
    · rw [if_neg e] at f
      exact ⟨π', σ', τ2, fc, t, q1, q2, q3, q4, Or.inr ⟨t, by omega, f⟩⟩
end FU9
