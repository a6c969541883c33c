/-! rows of expressions: the beginning; cat and exp -/
section RM
variable {N : Nat} {b : Bse} {dl : List (Int × Int)} {rA rF : Sh → St → Option (Sh × St × Int)}
theorem EXf.up {Xo : Int → Prop} {L : List Stq} {Kn : List Int} {v v' : Int} {π π' : Sh} {σ τ τ1 σ' τ' : St} {t t' : Nat} (h : EXf b Xo L Kn v π σ τ1 π' σ' τ' t) (hl : lf τ1 ≤ lf τ) (ho : fl τ1 13 0 = fl τ 13 0) (hv : v ≤ v') (ht : (t' : Int) + 20 * lf τ1 + 4 * v ≤ t + 20 * lf τ + 4 * v') : EXf b Xo L Kn v' π σ τ π' σ' τ' t' := by
  obtain ⟨h1, h2, h3⟩ := h
  rw [ho] at h1 h2
  exact ⟨h1.mono (by omega) (by omega), h2.mono (by omega) (by omega), by omega⟩
theorem EXk.up {Xo : Int → Prop} {L : List Stq} {Kn : List Int} {c c' v v' d d' : Int} {π π' : Sh} {σ τ τ1 σ' τ' τ'' : St} {o : Int} {t t' : Nat} (hc : CTX b dl) (h : EXk N b dl Xo L Kn d c v π σ τ1 π' σ' τ' o t) (h1 : lf τ1 = lf τ ∧ fl τ1 13 0 = fl τ 13 0 ∧ fl τ1 16 0 = fl τ 16 0) (hcc : c ≤ c') (ht : (t' : Int) + 2 * v ≤ t + 2 * v') (hr : RDr (bV b) 0 τ' τ'') (h2 : fl τ'' 41 0 = d' ∧ ∀ g : Nat, g ≠ 41 → fl τ'' g 0 = fl τ' g 0) (h3 : ∀ a i : Int, 84 ≤ a → el τ'' a i = el τ' a i) : EXk N b dl Xo L Kn d' c' v' π σ τ π' σ' τ'' o t' := by
  obtain ⟨seg, kn2, n, w, z, k, g1, ⟨g2, g3, g4⟩, g5, g6, g7, g8, ⟨⟨m1, m2⟩, ⟨m3, m4⟩, m5, m6, m7, m8⟩, ⟨g9, g10⟩, g11⟩ := h
  have l2 : lf τ'' = lf τ' := by unfold lf; rw [h2.2 1 (by decide), h2.2 4 (by decide)]
  have f16 := h2.2 16 (by decide)
  rw [h1.1] at m2 m4 m5 m6 m7 m8 g9 g10 g11
  rw [h1.2.1] at m2 m4 g4
  rw [h1.2.2] at m8 g5 g7
  refine ⟨seg, kn2, n, w, z, k, g1.rt hc hr (Int.le_refl _) (Int.le_refl _) (by rw [f16]; exact g1.2.2.2.2.2.2.2.2.1) (fun g hg => h2.2 g (by omega)), ⟨h2.1, by rw [h2.2 46 (by decide)]; exact g3, by rw [h2.2 13 (by decide)]; exact g4⟩, by rw [f16]; exact g5, by rw [h3 94 n (by omega)]; exact g6, by rw [f16]; exact g7.cg (fun a i x1 _ _ _ _ => h3 a i (by omega)) (List.prefix_refl _) ⟨Int.le_refl _, Int.le_refl _⟩ ⟨Int.le_refl _, Int.le_refl _, Nat.le_refl _⟩, g8, ?_, by rw [l2]; exact ⟨g9, g10⟩, by rw [l2]; exact g11⟩
  rw [EBg, l2, f16]
  exact ⟨⟨m1, by omega⟩, ⟨m3, by omega⟩, m5, by omega, m7, m8⟩
theorem RQr.low {K n0 n1 s place lw : Int} {π : Sh} {σ : St} {ops : List Kid} (h : RQr K π σ n0 s place ops lw) (hn : n1 ≤ n0 ∧ 56 ≤ n1) : RQr K π σ n1 s place ops lw := by
  have lo : OPs π σ n0 s ops → OPs π σ n1 s ops := fun q => ⟨q.1, by have := q.2.1; omega, q.2.2.1, q.2.2.2.1, by have := q.2.2.2.2.1; omega, q.2.2.2.2.2⟩
  rcases h with ⟨e, h1, h2, h3, h4, h5, h6, h7⟩ | ⟨e, e2, h1, h2, h3, h4⟩
  · refine Or.inl ⟨e, lo h1, ?_, h3, h4, h5, hn.2, h7⟩
    rcases h2 with q | ⟨q1, q2, q3, q4, q5⟩
    · exact Or.inl q
    · exact Or.inr ⟨q1, ⟨q2.1, by have := q2.2.1; omega, q2.2.2⟩, ⟨q3.1, by have := q3.2.1; omega, q3.2.2⟩, ⟨q4.1, by have := q4.2.1; omega, q4.2.2⟩, q5⟩
  · exact Or.inr ⟨e, e2, lo h1, h2, h3, hn.2⟩
/-- what the class's function does before its loop -/
def LPb (N : Nat) (Kf kd sp : Int) (sub fn : Sh → St → Option (Sh × St × Int)) (lp : Nat → Sh → St → Int → Int → Option (Sh × St × Int)) : Prop := (∀ π σ π1 σ1 o1, sub π σ = some (π1, σ1, o1) → i32 (fl σ1 182 1) → i32 (fl σ1 185 1) → (fl σ1 182 1 = 0 → fl σ1 185 1 ≠ sp) → fn π σ = some (π1, σ1, o1)) ∧ (∀ π σ π1 σ1 o1 π2 σ2 π3 σ3, sub π σ = some (π1, σ1, o1) → fl σ1 182 1 = 0 → fl σ1 185 1 = sp → Sp_init N (nO π1 10 14) (zO σ1 (nn π1) dfl) (nn π1) kd (fl σ1 186 1) = some (π2, σ2) → ob (nO π1 10 14) (nn π1) 10 → ob π2 (nn π1) 10 → 1 < nn π1 → GVr N (Kf + 4) π2 (sf σ2 206 (nn π1) 1) (nn π1) o1 π3 σ3 → fn π σ = lp N π3 σ3 (nn π1) 0)
set_option maxHeartbeats 4000000 in
theorem row_all {Kf kd cs vs op sp dr : Int} {sub fn : Sh → St → Option (Sh × St × Int)} {lp : Nat → Sh → St → Int → Int → Option (Sh × St × Int)} (hN : 30000001 ≤ N) (hc : CTX b dl) (hK : (Kf = 1 ∧ sp = 38 ∧ kd = 8) ∨ (Kf = 2 ∧ sp = 59 ∧ kd = 5)) (hlp : ∀ s, LPo N Kf sp s sub lp) (hfn : LPb N Kf kd sp sub fn lp) (hv : 0 ≤ vs ∧ vs ≤ 3) (hcs : 0 ≤ cs) (hdr : 0 ≤ dr ∧ dr ≤ 20) (hsub : ARH N b dl (Kf + 1) cs vs (dr + 1) sub op) : ARH N b dl Kf (cs + 3) (vs + 1) dr fn op := by
  intro Xo π0 σ0 τ0 L0 Kn0 d h0 hop hF hd hn hB0
  have l0 := h0.2.1.lf
  have f0 := h0.2.2.1
  have opb := h0.2.2.2.1
  have v16 := h0.2.2.2.2.2.2.2.2.1
  have bv : 0 ≤ bV b := by obtain ⟨-, -, -, -, -, -, -, -, -, q⟩ := hc; exact q
  have nb := h0.2.2.2.2.2.2.1.1.1
  have n56 := h0.1.1
  have hK' : (Kf = 1 ∧ sp = 38) ∨ (Kf = 2 ∧ sp = 59) := by omega
  have kr : rdK N Kf = fun τ d => r_readRow N τ d sp Kf (Kf + 1) := by
    rcases hK with ⟨rfl, rfl, -⟩ | ⟨rfl, rfl, -⟩ <;> rfl
  have sg : isSgB sp := by unfold isSgB; omega
  have dd : d < 500 := by omega
  -- the first part
  obtain ⟨τ1, hτ1⟩ : ∃ τ1, τ1 = nwF (se τ0 72 d 1) (Kf + 1) (-1) 0 := ⟨_, rfl⟩
  have r1 : RDr (fl τ0 16 0) d τ0 τ1 := by rw [hτ1]; exact nwF_rd ((RDr.rf _ _ τ0).sp 72 d 1 (by omega) (Int.le_refl _)) _ _ _ (by rw [fl_se, hF.1]; omega)
  have f1 : ∀ g : Nat, g ≠ 41 → fl τ1 g 0 = fl τ0 g 0 := fun g hg => by rw [hτ1, nwF_fl _ _ _ _ _ _ hg, fl_se]
  have g41 : fl τ1 41 0 = d + 2 := by rw [hτ1, nwF_41, fl_se, hF.1]; omega
  have nv := nwF_v (se τ0 72 d 1) (Kf + 1) (-1) 0
  rw [fl_se, hF.1, ← hτ1] at nv
  have ed : el τ1 74 d = Kf ∧ el τ1 72 d = 1 ∧ el τ1 73 d = -1 := by
    rw [hτ1, nwF_el _ _ _ _ _ _ (by rw [fl_se, hF.1]; omega), nwF_el _ _ _ _ _ _ (by rw [fl_se, hF.1]; omega), nwF_el _ _ _ _ _ _ (by rw [fl_se, hF.1]; omega), el_sen _ _ _ _ (by decide), el_ses, el_sen _ _ _ _ (by decide)]
    exact ⟨hF.2.1, rfl, hn⟩
  have turn1 : rdK N Kf τ0 d = some τ1 := by
    rw [kr]
    show r_readRow N τ0 d sp Kf (Kf + 1) = _
    rw [r_readRow, grd_t (by exact ⟨hd.1, by omega⟩), hF.2.2, grd_t (by decide), if_pos rfl]
    simp only [bnd]
    rw [r_begin' (by rw [fl_se, hF.1]; exact ⟨by omega, by omega⟩), Option.bind_some, hτ1]
  have rl1 : RLp N 1 τ0 τ1 := RLp.one hF.1 ⟨hd.1, by omega⟩ f0.2 ⟨hF.2.1, by omega, by omega⟩ turn1
  have x1 : XEs b Xo π0 σ0 τ1 L0 Kn0 := h0.rt hc r1 (by omega) hd.1 (by rw [f1 16 (by decide)]; exact v16) (fun g hg => f1 g (by omega))
  have lf1 : lf τ1 = lf τ0 := by unfold lf; rw [f1 1 (by decide), f1 4 (by decide)]
  have f13 := f1 13 (by decide)
  have f16 := f1 16 (by decide)
  obtain ⟨π2, σ2, τ2, o, t, q1, q2, q3, q4, q5⟩ := hsub Xo π0 σ0 τ1 L0 Kn0 (d + 1) x1 (by omega) ⟨by omega, nv.1, nv.2.2.1⟩ ⟨by omega, by omega⟩ nv.2.1 (by unfold PRE at hB0 ⊢; rw [lf1, f16]; exact hB0)
  have rd2 : RDr (fl τ0 16 0) d τ0 τ2 := r1.tr q4 (by omega) (by omega)
  rcases q5 with f | f
  · -- a fault
    have fz := f.1.f
    obtain ⟨τt, ht⟩ := f.1.2.1
    exact ⟨π2, σ2, τ2, o, 1 + t, hfn.1 _ _ _ _ _ q1 fz.2 ht.kd.1 (fun e => absurd e fz.1), rl1.tr q2, q3, rd2, Or.inl (f.up (by omega) f13 (by omega) (by push_cast; omega))⟩
  · have fk := f
    obtain ⟨seg, kn2, n, w, z, k, g1, ⟨g2, g3, g4⟩, g5, g6, g7, g8, ⟨⟨m1, m2⟩, ⟨m3, m4⟩, m5, m6, m7, m8⟩, ⟨g9, g10⟩, g11⟩ := f
    have tk2 := g1.2.1
    have fz2 := g1.2.2.1
    have fr : ∀ a : Int, 71 ≤ a → a ≤ 74 → el τ2 a d = el τ1 a d := fun a z1 z2 => q4.2.2.2 a d z1 z2 (by omega)
    rw [lf1] at m2 m4 m5 m6 m7 m8 g9 g10 g11
    rw [f13] at m2 m4 g4
    rw [f16] at m8 g5 g7
    by_cases e : fl σ2 185 1 = sp
    · -- more follows
      have l2 := tk2.lf
      have x2 := g1.x hc
      have lx := g1.lt hc
      have n02 := q3.1.1
      obtain ⟨s, hs⟩ : ∃ s : Int, s = nn π2 := ⟨_, rfl⟩
      obtain ⟨π3, σ3, c1, c2, c3, c4, c5, c6, c7, c8, c9⟩ := RQr.new (N := N) (K := Kf + 4) (kd := kd) (place := fl σ2 186 1) g1.1 g1.2.2.2.2.2.1 (by omega)
      obtain ⟨σ3', hσ3'⟩ : ∃ σ3', σ3' = sf σ3 206 (nn π2) 1 := ⟨_, rfl⟩
      rw [← hσ3'] at c4 c5 c6 c9
      have e3 : EFt (bX b) (bY b) π2 σ2 π3 σ3' := EFt.nw c6 (Int.le_refl _) ⟨lx.1.2.1, lx.1.2.2.2.1⟩
      have hXn : ∀ y, XR Xo σ3' (nn π2) y → nn b.1 ≤ y := fun y hy => by
        rcases hy with q | q | ⟨z1, z2⟩
        · exact h0.2.2.2.2.2.2.2.2.2 y q
        · omega
        · have w5 := c5.s.1.2.2.2.2.1
          rcases c5 with ⟨-, u⟩ | ⟨-, -, u⟩
          · obtain ⟨-, u2, -⟩ := u
            rcases u2 with u2 | u2
            · have u3 := u2.2.2
              omega
            · exact absurd rfl u2.1
          · have u3 := u.2.1
            omega
      have x3 : XEs b (XR Xo σ3' (nn π2)) π3 σ3' τ2 (L0 ++ seg) (Kn0 ++ kn2) := g1.cl hc e3 (fun g => c6.2.1 g 1 (by omega)) c4 hXn
      obtain ⟨π4, σ4, lw4, d1, d2, d3, d4, d5, d6, d7, d8⟩ := XEs.gv (N := N) (o := o) hc x3 c5 ⟨by omega, by omega⟩ (by simp)
      rw [List.nil_append] at d4
      -- the reference's turn
      obtain ⟨r, hr⟩ : ∃ r, r = fl τ2 16 0 := ⟨_, rfl⟩
      obtain ⟨x, hx⟩ : ∃ x : Ech, x = (n, some o, [], seg, (fl τ0 16 0, r), (w, z), k) := ⟨_, rfl⟩
      have xC : eC x = n := by rw [hx]; rfl
      have xO : eO x = some o := by rw [hx]; rfl
      have xA : eA x = [] := by rw [hx]; rfl
      have xS : eS x = seg := by rw [hx]; rfl
      have xL : eL x = fl τ0 16 0 := by rw [hx]; rfl
      have xH : eH x = r := by rw [hx]; rfl
      have xW : eW x = w := by rw [hx]; rfl
      have xZ : eZ x = z := by rw [hx]; rfl
      have xK : eK x = k := by rw [hx]; rfl
      have eo : eopz [x] = [(o, 1, 1)] := by
        have : eop x = o := by unfold eop; rw [xO]
        show [(eop x, 1, 1)] = _
        rw [this]
      have eg : egs [x] = seg := by show eS x ++ [] = _; rw [xS, List.append_nil]
      have ek : ekk [x] = k + 3 := by show eK x + 2 + 1 = _; rw [xK]
      have r0 : 0 ≤ r ∧ r < 32768 := by unfold PRE at hB0; omega
      obtain ⟨τn, hτn⟩ : ∃ τn, τn = se (nwN τ2 Kf (fl τ2 4 0)) 73 d r := ⟨_, rfl⟩
      have rdn : RDr (fl τ0 16 0) d τ2 τn := by rw [hτn]; exact (nwN_rd (RDr.rf _ _ _) Kf _ (by omega)).sp 73 d r (by omega) (Int.le_refl _)
      have fn' : ∀ g : Nat, g ≠ 16 → fl τn g 0 = fl τ2 g 0 := fun g hg => by rw [hτn, fl_se]; exact nwN_fl _ _ _ _ _ hg
      have fn16 : fl τn 16 0 = r + 1 := by rw [hτn, fl_se, hr]; exact nwN_16 _ _ _
      have nvn := nwN_v τ2 Kf (fl τ2 4 0)
      rw [← hr] at nvn
      have enr : ∀ a : Int, 85 ≤ a → el τn a r = el (nwN τ2 Kf (fl τ2 4 0)) a r := fun a ha => by rw [hτn, el_sen _ _ _ _ (by omega)]
      have en : ∀ a i : Int, 84 ≤ a → i ≠ r → el τn a i = el τ2 a i := fun a i ha hi => by rw [hτn, el_sen _ _ _ _ (by omega), nwN_el _ _ _ _ _ (by rw [← hr]; omega)]
      have ex1 : EC1 N b τn (Kn0 ++ kn2) ((L0.length : Int) + ((egs []).length : Nat)) x := by
        have z0 : (L0.length : Int) + ((egs []).length : Nat) = L0.length := by show (L0.length : Int) + ((0 : Nat) : Int) = _; omega
        rw [z0]
        have q : EC1 N b τ2 (Kn0 ++ kn2) L0.length x := by
          refine ⟨by rw [xL, xH, xC]; exact ⟨⟨by omega, by omega⟩, by omega, by omega⟩, by rw [xL, xH]; exact ⟨by omega, by omega⟩, by rw [xC]; exact ⟨g6.1.1, g6.1.2, g6.2.2⟩, fun q hq => by rw [xA] at hq; exact absurd hq (by simp), Or.inl ⟨o, xO, xA, by rw [xC]; exact g6.2.1, ?_⟩⟩
          rw [xL, xH, xC, xS, xW, xZ, xK, hr]
          exact g7
        exact q.cg (fun a i z1 z2 z3 z4 _ => en a i (by omega) (by rw [xH] at z4; omega)) (List.prefix_refl _)
      have tkn : TKr σ2 τn := tk2.rd (fun _ _ => rfl) (fun _ => rfl) rdn (fun g hg => fn' g (by omega))
      obtain ⟨τb, hb⟩ : ∃ τb, τb = se (apN τn r n) 92 r (el (apN τn r n) 92 r + 1) := ⟨_, rfl⟩
      have e87 : el τn 87 r = -1 := by rw [enr 87 (by omega)]; exact nvn.2.2.2.2.2.2.2.1
      obtain ⟨u1, u2, u3, u4, u5, u6⟩ := row_turn (N := N) (b := b) (d := d) (hi := fl τ0 16 0) (hi' := r + 1) (l := []) (lo := fl τ0 16 0) (j := L0.length) (r := r) (Int.le_refl _) ⟨e87, Or.inl rfl⟩ ex1 xC (fun y hy => by
        rcases hy with q | q
        · exact absurd q (by simp)
        · rw [q, xH]; omega) (by rw [xL]; exact Int.le_refl _) (by rw [xH]; omega) ⟨by omega, by omega, by omega⟩ τb hb
      have r_ : r_readRow_71 N τn d (Kf + 1) 1 = Option.bind (r_advance N τb) (fun r26 => r_begin N r26 (Kf + 1) (-1) 0) := by
        rw [rr_row71 (r := r) (c := n) ⟨hd.1, dd⟩ (by rw [hτn, el_ses]) (by rw [fn' 46 (by decide)]; exact g3) ⟨r0.1, r0.2⟩ ⟨by omega, by omega⟩ (Or.inl e87) (by rw [e87]; decide) (by decide), if_neg (by decide), hb]
      have xb : XEs b (XR Xo σ4 (nn π2)) π4 σ4 τb (L0 ++ seg) (Kn0 ++ kn2) := by
        refine (d5.rt hc rdn (by omega) hd.1 (by omega) (fun g hg => fn' g (by omega))).rt hc u5 (by omega) hd.1 (by rw [u4]; omega) (fun g _ => u4 g 0)
      have s4 : ∀ g : Nat, fl σ4 g 1 = fl σ2 g 1 := fun g => by rw [d8 g 1 (by omega), c6.2.1 g 1 (by omega)]
      obtain ⟨σ5, τ5, p1, p2, p3, p4, p5, p6, p7, -⟩ := xb.adv (N := N) (by omega) hc (by rw [s4]; omega)
      have g51 : fl τ5 41 0 = d + 1 := by rw [p5.1 41 0 (by omega), u4, fn' 41 (by decide)]; exact g2
      obtain ⟨τ6, h6⟩ : ∃ τ6, τ6 = nwF τ5 (Kf + 1) (-1) 0 := ⟨_, rfl⟩
      have turn2 : rdK N Kf τ2 d = some τ6 := by
        rw [kr]
        show r_readRow N τ2 d sp Kf (Kf + 1) = _
        rw [r_readRow, grd_t (by exact ⟨hd.1, by omega⟩), fr 72 (by omega) (by omega), ed.2.1, grd_t (by decide), if_neg (by decide), tk2.sign sg, Option.bind_some]
        simp only
        rw [fr 73 (by omega) (by omega), ed.2.2, grd_t (by decide), if_pos rfl, if_pos e, grd_t (by decide), if_neg (by decide), r_node' ⟨by omega, by omega⟩, Option.bind_some]
        simp only
        rw [← hr, ← hτn, r_, p2, Option.bind_some, r_begin' ⟨by omega, by omega⟩, h6]
      have rl2 : RLp N 1 τ2 τ6 := RLp.one g2 ⟨hd.1, by omega⟩ fz2.2 ⟨by rw [fr 74 (by omega) (by omega)]; exact ed.1, by omega, by omega⟩ turn2
      have rd5 : RDr (fl τ0 16 0) d τ2 τ5 := (rdn.tr u5 (Int.le_refl _) (Int.le_refl _)).tr (RDr.sc (lo := fl τ0 16 0) (d := d) p5) (Int.le_refl _) (Int.le_refl _)
      have rd6 : RDr (fl τ0 16 0) d τ2 τ6 := by rw [h6]; exact nwF_rd rd5 _ _ _ (by omega)
      have f6 : ∀ g : Nat, g ≠ 41 → fl τ6 g 0 = fl τ5 g 0 := fun g hg => by rw [h6]; exact nwF_fl _ _ _ _ _ _ hg
      have f616 : fl τ6 16 0 = r + 1 := by rw [f6 16 (by decide), p5.1 16 0 (by omega), u4, fn16]
      have e6 : ∀ a i : Int, ¬ (71 ≤ a ∧ a ≤ 74) → el τ6 a i = el τb a i := fun a i ha => by rw [h6, nwF_el _ _ _ _ _ _ (by omega), p5.2]
      have ed6 : ∀ a : Int, a < 85 → el τ6 a d = el τn a d := fun a ha => by rw [h6, nwF_el _ _ _ _ _ _ (by omega), p5.2, u6 a d ha]
      have nv6 := nwF_v τ5 (Kf + 1) (-1) 0
      rw [g51, ← h6] at nv6
      have xr : XR Xo σ5 (nn π2) = XR Xo σ4 (nn π2) := XR.eq (fun f z1 z2 => p4.1 f _ (by omega))
      have er : ERf σ4 σ5 := ERf.sc p4
      have lx4 := d5.lt hc
      have k41 : fl σ4 1 (bX b) = fl σ3' 1 (bX b) ∧ fl σ4 1 (bY b) = fl σ3' 1 (bY b) := ⟨d8 1 _ (by omega), d8 1 _ (by omega)⟩
      have k31 : fl σ3' 1 (bX b) = fl σ2 1 (bX b) ∧ fl σ3' 1 (bY b) = fl σ2 1 (bY b) := ⟨c6.2.1 1 _ (by omega), c6.2.1 1 _ (by omega)⟩
      have ex24 : ext π2 π4 := c6.1.tr d3.1
      have cx : cpc π4 σ5 (bX b) = cpc π2 σ2 (bX b) := by
        have w1 : fl σ5 1 (bX b) = fl σ2 1 (bX b) := by rw [er.1 1 _ (by omega) (by omega) (by omega), k41.1, k31.1]
        exact cpc_eq w1 ex24 lx.2.1.1
      have cy : cpc π4 σ5 (bY b) = cpc π2 σ2 (bY b) := by
        have w1 : fl σ5 1 (bY b) = fl σ2 1 (bY b) := by rw [er.1 1 _ (by omega) (by omega) (by omega), k41.2, k31.2]
        exact cpc_eq w1 ex24 lx.2.1.2
      have c210 : fl σ5 210 (nn π2) = fl σ4 210 (nn π2) := p4.1 210 _ (by omega)
      have lf6 : lf τ6 + 1 ≤ lf τ2 := by
        have z1 : fl τ6 1 0 = fl τ2 1 0 := rd6.1 1 0 (by omega) (by decide) (by decide) (by decide) (by decide)
        have z2 : fl τ6 4 0 = fl τ5 4 0 := f6 4 (by decide)
        have z3 : fl τb 4 0 = fl τ2 4 0 := by rw [u4, fn' 4 (by decide)]
        have z4 : fl σ4 185 1 = sp := by rw [s4]; exact e
        unfold lf
        omega
      have e04 : EFt (bX b) (bY b) π0 σ0 π4 σ4 := (q3.tr e3).own (d3.le (by omega)) k41
      have h13 : fl τ6 13 0 = op := by rw [f6 13 (by decide), p5.1 13 0 (by omega), u4, fn' 13 (by decide), g4]; exact hop
      have x6 : XEs b (XR Xo σ5 (nn π2)) π4 σ5 τ6 (L0 ++ egs [x]) (Kn0 ++ kn2) := by
        rw [xr, eg]
        exact p3.rt hc (by rw [h6]; exact nwF_rd (RDr.rf (bV b) 0 τ5) _ _ _ (by omega)) (Int.le_refl _) (Int.le_refl _) (by omega) (fun g hg => f6 g (by omega))
      have bq := g11.1
      have bq2 := g11.2
      rw [c9] at d7
      have RW : RWA N b dl Xo Kf cs op d r (nn π2) (fl σ2 186 1) L0 Kn0 π0 σ0 τ0 π4 σ5 τ6 [x] kn2 lw4 (1 + t + 1) := by
        refine ⟨x6, by rw [eo]; exact RQr.low (d4.cg (ext.rf _) (fun f z1 z2 => p4.1 f _ (by omega)) (fun a j _ => p4.2 a j)) (by omega), e04.tr (EFt.rd er ⟨lx.1.1, lx.1.2.2.1⟩), rd2.tr rd6 (Int.le_refl _) (Int.le_refl _), ⟨by rw [h6, nwF_41, g51]; omega, ?_, ?_, ?_⟩, ⟨nv6.1, nv6.2.2.1, nv6.2.1⟩, h13, ?_, ?_, ⟨by omega, by omega⟩, ?_, ?_, ⟨?_, ?_, ?_⟩, ?_, by simp, ⟨⟨by rw [xW]; omega, by rw [xZ]; omega, by omega⟩, ?_⟩, ?_, ?_, ?_, ?_, ?_, ?_, ?_, ?_⟩
        · rw [ed6 74 (by omega), hτn, el_sen _ _ _ _ (by decide), nwN_el _ _ _ _ _ (by omega), fr 74 (by omega) (by omega)]; exact ed.1
        · rw [ed6 72 (by omega), hτn, el_sen _ _ _ _ (by decide), nwN_el _ _ _ _ _ (by omega), fr 72 (by omega) (by omega)]; exact ed.2.1
        · rw [ed6 73 (by omega), hτn, el_ses]
        · rw [f616]; exact u1.cg (List.prefix_refl _) (fun y _ a i z1 z2 _ _ _ => e6 a i (by omega))
        · rw [f616]; exact ECn.mv u1 u2 ⟨e6 87 r (by omega), e6 86 r (by omega)⟩ (Int.le_refl _) (fun y _ => ⟨e6 94 _ (by omega), e6 85 _ (by omega)⟩)
        · intro y hy
          have : y = x := by simpa using hy
          rw [this, xH]; omega
        · intro y hy
          have : y = x := by simpa using hy
          rw [this, xO]; simp
        · rw [e6 94 r (by omega), u3.1, enr 94 (by omega)]; exact nvn.1
        · rw [e6 93 r (by omega), u3.2.1, enr 93 (by omega), nvn.2.1]; exact tk2.2.1.symm
        · rw [e6 92 r (by omega), u3.2.2, enr 92 (by omega), nvn.2.2.1]; rfl
        · rw [eg]; exact g8
        · show 0 ≤ _ - 1; omega
        · rw [ek]; simp only [List.length_singleton]; push_cast; omega
        · omega
        · rw [eg]; simp only [List.length_singleton]; push_cast; omega
        · omega
        · push_cast; omega
        · simp only [List.length_singleton]; push_cast; omega
        · simp only [List.length_singleton]; rw [cx, cy, c210]; push_cast; omega
        · simp only [List.length_singleton]; push_cast; omega
      have l6 := x6.2.1.lf
      obtain ⟨N', hN'⟩ : ∃ N', N = N' + 1 := ⟨N - 1, by omega⟩
      obtain ⟨π5', σ5', o5, π6, σ6, π', σ', o', τ', t', y1, y2, y3, y4, y5, y6⟩ := row_go (ds := dr + 1) hN hc h0 hB0 hop hK' (hlp (nn π2)) hv hcs ⟨hd.1, dd, by omega⟩ hsub (lf τ6).toNat π4 σ5 τ6 [x] kn2 lw4 (1 + t + 1) N' RW (by omega) (by omega)
      refine ⟨π', σ', τ', o', 1 + t + 1 + t', ?_, ((rl1.tr q2).tr rl2).tr y5, y6⟩
      have z1 := hfn.2 _ _ _ _ _ _ _ _ _ q1 fz2.1 e c1 c3 c2 (by omega) (by rw [← hσ3']; exact d1)
      rw [z1]
      have z2 := (hlp (nn π2)).1 N' π4 σ4 0 σ5 π5' σ5' o5 π6 σ6 (Int.le_refl _) (by omega) (by rw [s4]; exact fz2.1) (by rw [s4]; exact e) p1 y1 y2 y3
      have z3 : lp N π4 σ4 (nn π2) 0 = lp (N' + 1) π4 σ4 (nn π2) 0 := by rw [← hN']
      rw [z3, z2]
      exact y4
    · -- that was all
      have turn2 : rdK N Kf τ2 d = some (sf (sf τ2 46 0 n) 41 0 d) := by
        rw [kr]
        show r_readRow N τ2 d sp Kf (Kf + 1) = _
        rw [r_readRow, grd_t (by exact ⟨hd.1, by omega⟩), fr 72 (by omega) (by omega), ed.2.1, grd_t (by decide), if_neg (by decide), tk2.sign sg, Option.bind_some]
        simp only
        rw [fr 73 (by omega) (by omega), ed.2.2, grd_t (by decide), if_pos rfl, if_neg e, grd_t (by decide), if_pos rfl, r_finish', Option.bind_some, g3, g2]
        congr 2
        omega
      refine ⟨π2, σ2, _, o, 1 + t + 1, hfn.1 _ _ _ _ _ q1 (by rw [fz2.1]; decide) tk2.kd.1 (fun _ => e), (rl1.tr q2).tr (RLp.one g2 ⟨hd.1, by omega⟩ fz2.2 ⟨by rw [fr 74 (by omega) (by omega)]; exact ed.1, by omega, by omega⟩ turn2), q3, (rd2.sf 46 n (by omega)).sf 41 d (by omega), Or.inr (fk.up hc ⟨lf1, f13, f16⟩ (by omega) (by push_cast; omega) (((RDr.rf (bV b) 0 τ2).sf 46 n (by omega)).sf 41 d (by omega)) ⟨fl_sfs _ _ _ _, fun g hg => ?_⟩ (fun a i _ => rfl))⟩
      rw [fl_sfn _ _ _ _ hg]
      by_cases c : g = 46
      · rw [c, fl_sfs]; exact g3.symm
      · rw [fl_sfn _ _ _ _ c]
/-- the class's loops -/
theorem lp_cat (s : Int) : LPo N 2 59 s (Rd_sum N rA rF) (Rd_cat_59 N rA rF) := by
  refine ⟨fun n π σ i σ1 π2 σ2 o π3 σ3 h0 h1 h2 h3 h4 h5 h6 h7 => ?_, fun n π σ i π' σ' o' h0 h1 h2 h3 h4 h5 => ?_⟩
  · rw [Rd_cat_59, grd_t (by exact ⟨by omega, by omega⟩), if_pos h1, h2, grd_t (by decide), if_pos rfl, h3, grd_t (by decide), if_pos rfl, h4, Option.bind_some, h5, Option.bind_some]
    simp only
    rw [Rd_cat_100, h6.1 (by decide), Option.bind_some, grd_t h7]
    rfl
  · have fin : Rd_cat_111 N rA rF π σ s = some (π', σ', o') := by
      rw [Rd_cat_111, h4, Option.bind_some, grd_t h5]; rfl
    rw [Rd_cat_59, grd_t (by exact ⟨by omega, by omega⟩)]
    by_cases c : i < 2000
    · rw [if_pos c, grd_t h2]
      by_cases c2 : fl σ 182 1 = 0
      · rw [if_pos c2, grd_t (h3 c2).1, if_neg (h3 c2).2, fin]
      · rw [if_neg c2, fin]
    · rw [if_neg c, fin]
theorem lp_exp (s : Int) : LPo N 1 38 s (Rd_cat N rA rF) (Rd_exp_59 N rA rF) := by
  refine ⟨fun n π σ i σ1 π2 σ2 o π3 σ3 h0 h1 h2 h3 h4 h5 h6 h7 => ?_, fun n π σ i π' σ' o' h0 h1 h2 h3 h4 h5 => ?_⟩
  · rw [Rd_exp_59, grd_t (by exact ⟨by omega, by omega⟩), if_pos h1, h2, grd_t (by decide), if_pos rfl, h3, grd_t (by decide), if_pos rfl, h4, Option.bind_some, h5, Option.bind_some]
    simp only
    rw [Rd_exp_100, h6.2 (by decide), Option.bind_some, grd_t h7]
    rfl
  · have fin : Rd_exp_110 N rA rF π σ s = some (π', σ', o') := by
      rw [Rd_exp_110, h4, Option.bind_some, grd_t h5]; rfl
    rw [Rd_exp_59, grd_t (by exact ⟨by omega, by omega⟩)]
    by_cases c : i < 2000
    · rw [if_pos c, grd_t h2]
      by_cases c2 : fl σ 182 1 = 0
      · rw [if_pos c2, grd_t (h3 c2).1, if_neg (h3 c2).2, fin]
      · rw [if_neg c2, fin]
    · rw [if_neg c, fin]
theorem lb_cat : LPb N 2 5 59 (Rd_sum N rA rF) (Rd_cat N rA rF) (Rd_cat_59 N rA rF) := by
  refine ⟨fun π σ π1 σ1 o1 h1 h2 h3 h4 => ?_, fun π σ π1 σ1 o1 π2 σ2 π3 σ3 h1 h2 h3 h4 h5 h6 h7 h8 => ?_⟩
  · rw [Rd_cat, h1, Option.bind_some, Rd_cat_4]
    simp only
    rw [grd_t h2]
    by_cases c : fl σ1 182 1 = 0
    · rw [if_pos c, grd_t h3, if_neg (h4 c)]
    · rw [if_neg c]
  · have e : fl (zO σ1 (nn π1) dfl) 186 1 = fl σ1 186 1 := by rw [fl_zO, if_neg (by omega)]
    rw [Rd_cat, h1, Option.bind_some, Rd_cat_4]
    simp only
    rw [h2, grd_t (by decide), if_pos rfl, h3, grd_t (by decide), if_pos rfl, Rd_cat_32, e, h4, Option.bind_some, grd_t h5]
    simp only
    rw [Rd_cat_44, grd_t h6]
    simp only [bnd]
    rw [h8.1 (by decide), Option.bind_some]
    rfl
theorem lb_exp : LPb N 1 8 38 (Rd_cat N rA rF) (Rd_exp N rA rF) (Rd_exp_59 N rA rF) := by
  refine ⟨fun π σ π1 σ1 o1 h1 h2 h3 h4 => ?_, fun π σ π1 σ1 o1 π2 σ2 π3 σ3 h1 h2 h3 h4 h5 h6 h7 h8 => ?_⟩
  · rw [Rd_exp, h1, Option.bind_some, Rd_exp_4]
    simp only
    rw [grd_t h2]
    by_cases c : fl σ1 182 1 = 0
    · rw [if_pos c, grd_t h3, if_neg (h4 c)]
    · rw [if_neg c]
  · have e : fl (zO σ1 (nn π1) dfl) 186 1 = fl σ1 186 1 := by rw [fl_zO, if_neg (by omega)]
    rw [Rd_exp, h1, Option.bind_some, Rd_exp_4]
    simp only
    rw [h2, grd_t (by decide), if_pos rfl, h3, grd_t (by decide), if_pos rfl, Rd_exp_32, e, h4, Option.bind_some, grd_t h5]
    simp only
    rw [Rd_exp_45, grd_t h6]
    simp only [bnd]
    rw [h8.2 (by decide), Option.bind_some]
    rfl
/-- an expression, of its sums -/
theorem exp_of {op : Int} (hN : 30000001 ≤ N) (hc : CTX b dl) (hs : ARH N b dl 3 8 2 4 (Rd_sum N rA rF) op) : ARH N b dl 1 14 4 2 (Rd_exp N rA rF) op := by
  have h1 : ARH N b dl 2 11 3 3 (Rd_cat N rA rF) op := row_all (Kf := 2) (kd := 5) (cs := 8) (vs := 2) (sp := 59) (dr := 3) hN hc (Or.inr ⟨rfl, rfl, rfl⟩) lp_cat lb_cat (by decide) (by decide) (by decide) hs
  exact row_all (Kf := 1) (kd := 8) (cs := 11) (vs := 3) (sp := 38) (dr := 2) hN hc (Or.inl ⟨rfl, rfl, rfl⟩) lp_exp lb_exp (by decide) (by decide) (by decide) h1
end RM
