/-! FUNs in brackets: the loop -/
section PS9
variable {N : Nat} {b : Bse} {Xo : Int → Prop} {dl : List (Int × Int)} {rA rF : Sh → St → Option (Sh × St × Int)}
set_option maxHeartbeats 2000000 in
theorem pl_go {op d : Int} {L0 : List Stq} {Kn0 : List Int} {π0 : Sh} {σ0 τ0 : St} (hN : 30000001 ≤ N) (hc : CTX b dl) (hW : WTr b.2.2.1) (hA : ARH N b dl 5 1 0 11 rA (op + 1)) (hF : FUH N b dl rF (op + 1)) (h0 : XEs b Xo π0 σ0 τ0 L0 Kn0) (hB0 : PRE τ0 L0 Kn0) (hop : fl τ0 13 0 = op ∧ 0 ≤ op ∧ op < 20) (hd : 0 ≤ d ∧ d ≤ 10 * op + 12) : ∀ (q : Nat) {n fc cl m' w z A B : Int} {kn : List Int} {l : List Ech} {m k T : Nat} {π : Sh} {σp σ τ : St} (g : Nat), lf τ ≤ q → q + 2 ≤ g → fl σp 182 1 = 0 → Sc_advance N π σp = some σ → PLA N b dl Xo op d n L0 Kn0 π0 σ0 τ0 π σ τ l kn fc cl m' w z A B m k T → ∃ π' σ' τ' fc' t, Rd_fun_70 N rA rF g π σp fc 1 (l.length : Int) = some (π', σ', fc') ∧ RLp N t τ τ' ∧ FPe N b dl Xo d L0 Kn0 π0 σ0 τ0 π' σ' τ' fc' (T + t) := by
  intro q
  induction q with
  | zero =>
    intro n fc cl m' w z A B kn l m k T π σp σ τ g hq
    intro _ _ _ h
    exfalso
    have a1 := h.1
    have a4 := h.2.2.2.1
    have l1 := a1.2.1.lf
    obtain ⟨π2, σ2, τ2, pc, t, r1, r2, e, rd, ho⟩ := piece_all (N := N) (op := op + 1) (d := d + 1) hN hc hW hA hF a1 h.2.2.2.2.2.1 ⟨by omega, h.2.2.2.2.1.1, h.2.2.2.2.1.2.1⟩ ⟨by omega, by omega⟩ (by
      obtain ⟨-, -, -, -, -, -, -, -, -, -, -, -, -, -, -, -, -, ⟨b1, b2, b3, b4, b5, b6⟩, -⟩ := h
      unfold PRE at hB0 ⊢
      rw [List.length_append, List.length_append]
      push_cast
      exact ⟨by omega, by omega, by omega⟩)
    omega
  | succ q ih =>
    intro n fc cl m' w z A B kn l m k T π σp σ τ g hq hg hp0 hadv h
    obtain ⟨g, rfl⟩ : ∃ g', g = g' + 1 := ⟨g - 1, by omega⟩
    have hk := h
    obtain ⟨a1, a2, a3, a4, a5, a6, a7, a8, a9, a10, a11, a12, a13, a14, a15, a16, ⟨a17, a18⟩, ⟨b1, b2, b3, b4, b5, b6⟩, ⟨b7, b8⟩, b9, b10⟩ := h
    have l0 := h0.2.1.lf
    have l1 := a1.2.1.lf
    have n56 := a1.1.1
    have lx := a1.lt hc
    have hB1 : PRE τ (L0 ++ egs l) (Kn0 ++ kn) := by
      unfold PRE at hB0 ⊢
      rw [List.length_append, List.length_append]
      push_cast
      exact ⟨by omega, by omega, by omega⟩
    obtain ⟨π2, σ2, τ2, pc, t, r1, r2, e, rd, ho⟩ := piece_all (N := N) (op := op + 1) (d := d + 1) hN hc hW hA hF a1 a6 ⟨by omega, a5.1, a5.2.1⟩ ⟨by omega, by omega⟩ hB1
    rcases ho with ⟨⟨f1, f2, f3⟩, fp⟩ | f
    · -- a fault in the piece
      have cond : pc < 0 ∨ ob π2 pc 6 := by rcases fp with s | s; exact Or.inl s; exact Or.inr s.1
      obtain ⟨τt, ht⟩ := f1.2.1
      have go := fl_go (N := N) (rA := rA) (rF := rF) (n := g) (x1 := fc) (i := (l.length : Int)) ⟨by omega, by omega⟩ hp0 hadv r1 cond ht.kd.1 (by rcases fp with s | s <;> omega)
      obtain ⟨σ3, hσ3⟩ : ∃ σ3, σ3 = if pc < 0 then σ2 else sf σ2 127 pc fc := ⟨_, rfl⟩
      have xx := (a2.tr e).x hc h0
      have fx3 : XQ b Xo π2 σ3 τ2 ((L0 ++ egs l).length + 2 * lf τ + 4 * (20 - fl τ 13 0) + 0) ((Kn0 ++ kn).length + lf τ) ∧ EFt (bX b) (bY b) π0 σ0 π2 σ3 ∧ (fl σ3 1 (bX b) = fl σ2 1 (bX b) ∧ fl σ3 1 (bY b) = fl σ2 1 (bY b)) ∧ (fl σ3 23 (bD b) = bX b ∧ fl σ3 24 (bD b) = bY b) := by
        by_cases c : pc < 0
        · rw [hσ3, if_pos c]
          exact ⟨f1, a2.tr e, ⟨rfl, rfl⟩, xx⟩
        · rw [if_neg c] at hσ3
          have s : ob π2 pc 6 ∧ nn π ≤ pc := fp.resolve_left c
          have pw : PWr σ2 σ3 pc := by rw [hσ3]; exact PWr.sf _ 127 _ _ (by decide)
          have kf : ∀ (f : Nat) (j : Int), ¬ (j = pc ∧ f = 127) → fl σ3 f j = fl σ2 f j := fun f j hq => by rw [hσ3, fl_sf, if_neg (by omega)]
          have k1e : fl σ3 1 (bX b) = fl σ2 1 (bX b) ∧ fl σ3 1 (bY b) = fl σ2 1 (bY b) := ⟨kf 1 _ (by omega), kf 1 _ (by omega)⟩
          have n0 := (a2.1).1
          exact ⟨f1.pw pw (by omega), (a2.tr e).own ⟨ext.rf _, fun f i hi => kf f i (by omega), fun a j _ => pw.2 a j⟩ k1e, k1e, by rw [kf 23 _ (by omega), kf 24 _ (by omega)]; exact xx⟩
      obtain ⟨fx1, fx2, fx4, fx5⟩ := fx3
      obtain ⟨σ4, z1, z2, z3⟩ := fx1.exp (N := N) (c := 41) (by omega) ⟨⟨by omega, by omega⟩, by omega⟩
      have lt2 := f1.lt xx
      have er : ERf σ3 (sf σ4 184 1 (fl σ4 184 1 - 1)) := z2.tr (ERf.sf _ 184 1 _ (by omega))
      have fz := fx1.f
      obtain ⟨g, rfl⟩ : ∃ g', g = g' + 1 := ⟨g - 1, by omega⟩
      have st := fl_stop (N := N) (rA := rA) (rF := rF) (n := g) (π := π2) (σ := σ3) (σ' := σ4) (x1 := if pc < 0 then fc else pc) (x2 := if fl σ2 185 1 = 46 then 1 else 0) (i := (l.length : Int) + 1) ⟨by omega, by omega⟩ (by split; exact Or.inr rfl; exact Or.inl rfl) fz.2 (Or.inr fz.1) z1
      rw [← hσ3] at go
      rw [List.length_append, List.length_append] at z3
      rw [a6] at z3 f2
      have rm := RmE.er (A := 0) (B := 0) er ⟨lx.1.1, lx.1.2.2.1⟩ (by rw [fx4.1, fx4.2]; exact lt2) ⟨by omega, by omega⟩
      have n1 := rm.1
      have n2 := rm.2
      have m1 := f2.1
      have m2 := f2.2
      have cx : cpc π2 σ3 (bX b) = cpc π2 σ2 (bX b) := cpc_eq fx4.1 (ext.rf _) lt2.1
      have cy : cpc π2 σ3 (bY b) = cpc π2 σ2 (bY b) := cpc_eq fx4.2 (ext.rf _) lt2.2
      rw [cx, cy] at n2
      refine ⟨π2, _, τ2, _, t, go.trans st, r2, fx2.tr (EFt.rd er ⟨lx.1.1, lx.1.2.2.1⟩), by rw [← a7.1]; exact a3.tr rd (by omega) (by omega), Or.inl ⟨z3.o.mono (by rw [hop.1]; push_cast; omega) (by push_cast; omega), ⟨?_, ?_⟩, by push_cast; omega⟩⟩
      · rw [hop.1]; omega
      · rw [hop.1]; omega
    · -- the piece was read
      obtain ⟨τa, x, kn2, w2, z2, A2, B2, m2, k2, p0, p1, p2, p3, p4, ⟨p5, p6, p7, p8, p9⟩, p10, p11, p12, hh⟩ := pl_ok hN hc h0 hB0 hop ⟨hd.1, by omega⟩ hk e rd f
      obtain ⟨σ3, hσ3⟩ : ∃ σ3, σ3 = sf σ2 127 pc fc := ⟨_, rfl⟩
      have go := fl_go (N := N) (rA := rA) (rF := rF) (n := g) (x1 := fc) (i := (l.length : Int)) ⟨by omega, by omega⟩ hp0 hadv r1 (Or.inr p1) p3.kd.1 (by
        have w := hh.2.2.2.2.2.2.2.2.2.2.2.2.2.1.2.2
        have := h0.1.1
        omega)
      rw [if_neg (by omega), if_neg (by omega), ← hσ3] at go
      rw [← hσ3] at hh
      have s185 : fl σ3 185 1 = fl σ2 185 1 := by rw [hσ3, fl_sfn _ _ _ _ (by decide)]
      have s182 : fl σ3 182 1 = 0 := by rw [hσ3, fl_sfn _ _ _ _ (by decide)]; exact p2
      have ta := hh.1.2.1
      have lfa : lf τa = lf τ2 := by unfold lf; rw [p11, p11]
      have fa := hh.1.2.2.1
      have hB4 := hh.2.2.2.2.2.2.2.2.2.2.2.2.2.2.2.2.1
      rw [← s185] at go
      have len : (l.length : Int) + 1 = ((l ++ [x]).length : Int) := by rw [List.length_append]; rfl
      have turn : ∀ τ', (if fl σ3 185 1 = 46 then Option.bind (r_advance N τa) (fun r22 => Option.bind (r_begin N r22 9 (-1) 0) (fun r24 => some r24)) else if fl σ3 185 1 = 41 then bnd (sf τa 13 0 ((fl τa 13 0) - 1)) (fun σ16 => Option.bind (r_advance N σ16) (fun r18 => Option.bind (r_finish N r18 (el r18 73 d)) (fun r20 => some r20))) else some (sf (sf τa 11 0 1) 12 0 (fl τa 4 0))) = some τ' → RLp N 1 τ2 τ' := fun τ' he => by
        refine RLp.one p5 ⟨hd.1, by omega⟩ p6 ⟨p7, by omega, by omega⟩ ?_
        show r_readPieces N τ2 d = _
        rw [r_readPieces, grd_t (by exact ⟨hd.1, by omega⟩), p8, grd_t (by decide), if_neg (by decide), p9, p10, Option.bind_some, ta.sign (c := 46) (by unfold isSgB; omega), Option.bind_some]
        simp only
        by_cases c1 : fl σ3 185 1 = 46
        · rw [if_pos c1] at he ⊢
          rw [grd_t (by decide), if_neg (by decide)]
          exact he
        · rw [if_neg c1] at he ⊢
          rw [grd_t (by decide), if_pos rfl, ta.sign (c := 41) (by unfold isSgB; omega), Option.bind_some]
          simp only
          by_cases c2 : fl σ3 185 1 = 41
          · rw [if_pos c2] at he ⊢
            rw [grd_t (by decide), if_neg (by decide)]
            exact he
          · rw [if_neg c2] at he ⊢
            rw [grd_t (by decide), if_pos rfl, r_fail0 fa.2, Option.bind_some]
            exact he
      by_cases c1 : fl σ3 185 1 = 46
      · obtain ⟨σ', τ', s1, s2, s3, s4⟩ := pl_next hN hc h0 ⟨hop.2.1, hop.2.2⟩ ⟨hd.1, by omega⟩ hh c1
        obtain ⟨π5, σ5, τ5, fc5, t5, u1, u2, u3⟩ := ih (σp := σ3) g (by omega) (by omega) s182 s1 s4
        rw [if_pos c1, len] at go
        refine ⟨π5, σ5, τ5, fc5, t + 1 + t5, go.trans u1, (r2.tr (turn τ' (by rw [if_pos c1]; exact s2))).tr u2, ?_⟩
        rw [show T + (t + 1 + t5) = T + t + 1 + t5 by omega]
        exact u3
      by_cases c2 : fl σ3 185 1 = 41
      · obtain ⟨σ', τ', s1, s2, s3⟩ := pl_end (τ2 := τ2) hN hc h0 hB0 hop ⟨hd.1, by omega⟩ hh c2
        obtain ⟨g, rfl⟩ : ∃ g', g = g' + 1 := ⟨g - 1, by omega⟩
        rw [if_neg c1] at go
        have st := fl_stop (N := N) (rA := rA) (rF := rF) (n := g) (π := π2) (σ := σ3) (σ' := σ') (x1 := pc) (x2 := 0) (i := (l.length : Int) + 1) ⟨by omega, by omega⟩ (Or.inl rfl) (by rw [s182]; decide) (Or.inl rfl) s1
        refine ⟨π2, _, τ', pc, t + 1, go.trans st, r2.tr (turn τ' (by rw [if_neg c1, if_pos c2]; exact s2)), ?_⟩
        rw [show T + (t + 1) = T + t + 1 by omega]
        exact s3
      · obtain ⟨g, rfl⟩ : ∃ g', g = g' + 1 := ⟨g - 1, by omega⟩
        rw [if_neg c1] at go
        obtain ⟨i1, i2, i3, i4, i5, i6, i7, i8, i9, i10, i11, i12, i13, i14, i15, i16, ⟨j1, j2, j3, j4, j5, j6⟩, ⟨j7, j8⟩, j9, j10⟩ := hh
        have ex : Rd_expect N π2 σ3 41 = some (sf (sf σ3 182 1 1) 183 1 (fl τa 4 0)) := by
          rw [Rd_expect, grd_t ta.kd.1, grd_t (by decide), if_neg c2, c_fail (by rw [s182]; decide), flS, if_pos s182, Option.bind_some, ta.2.1]
        have st := fl_stop (N := N) (rA := rA) (rF := rF) (n := g) (π := π2) (σ := σ3) (x1 := pc) (x2 := 0) (i := (l.length : Int) + 1) ⟨by omega, by omega⟩ (Or.inl rfl) (by rw [s182]; decide) (Or.inl rfl) ex
        have q := i1.q (f := 1) (p := fl τa 4 0) (by omega)
        have er : ERf σ3 (sf (sf (sf σ3 182 1 1) 183 1 (fl τa 4 0)) 184 1 (fl (sf (sf σ3 182 1 1) 183 1 (fl τa 4 0)) 184 1 - 1)) := ((ERf.sf _ 182 1 _ (by omega)).tr (ERf.sf _ 183 1 _ (by omega))).tr (ERf.sf _ 184 1 _ (by omega))
        have lx2 := i1.lt hc
        have rm := RmE.er (A := 0) (B := 0) er ⟨lx.1.1, lx.1.2.2.1⟩ lx2.2.1 ⟨by omega, by omega⟩
        have n1 := rm.1
        have n2 := rm.2
        have l2 := i1.2.1.lf
        refine ⟨π2, _, _, pc, t + 1, go.trans st, r2.tr (turn _ (by rw [if_neg c1, if_neg c2])), i2.tr (EFt.rd er ⟨lx.1.1, lx.1.2.2.1⟩), by rw [← a7.1]; exact (i3.sf 11 1 (by omega)).sf 12 _ (by omega), Or.inl ⟨q.o.mono (by rw [List.length_append]; push_cast; omega) (by rw [List.length_append]; push_cast; omega), ⟨?_, ?_⟩, by push_cast; omega⟩⟩
        · rw [hop.1]; omega
        · rw [hop.1]; omega
end PS9
