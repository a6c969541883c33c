/-! pieces: groups -/
section PG9
variable {N : Nat} {b : Bse} {Xo : Int → Prop} {dl : List (Int × Int)} {rA rF : Sh → St → Option (Sh × St × Int)}
set_option maxHeartbeats 4000000 in
theorem pc_group {op d : Int} {π : Sh} {σ τ : St} {L : List Stq} {Kn : List Int} (hN : 30000001 ≤ N) (hc : CTX b dl) (hF : FUH N b dl rF op) (h : XEs b Xo π σ τ L Kn) (hop : fl τ 13 0 = op) (hK : FRx τ d 9) (hd : 0 ≤ d ∧ d ≤ 10 * op + 9) (hB : PRE τ L Kn) (h1 : fl σ 185 1 = 40) : ∃ π' σ' τ' pc t, Rd_piece N rA rF π σ = some (π', σ', pc) ∧ RLp N t τ τ' ∧ PIo N b dl Xo L Kn d π σ τ π' σ' τ' pc t := by
  have tk := h.2.1
  have f0 := h.2.2.1
  have op20 := h.2.2.2.1
  have v16 := h.2.2.2.2.2.2.2.2.1
  have n56 := h.1.1
  have lx := h.lt hc
  have nb := h.2.2.2.2.2.2.1.1.1
  have l0 := tk.lf
  -- the reference's turn
  obtain ⟨τ1, hτ1⟩ : ∃ τ1, τ1 = nwF (sf τ 41 0 (fl τ 41 0 - 1)) 8 (-1) 0 := ⟨_, rfl⟩
  have g41 : fl (sf τ 41 0 (fl τ 41 0 - 1)) 41 0 = d := by rw [fl_sfs, hK.1]; omega
  have turn1 : rdK N 9 τ d = some τ1 := by
    show r_readPiece N τ d = _
    rw [r_readPiece, grd_t (by exact ⟨hd.1, by omega⟩), hK.2.2, grd_t (by decide), if_neg (by decide), if_neg (by decide), tk.sign (c := 40) (by unfold isSgB; omega), Option.bind_some]
    simp only
    rw [if_pos h1, grd_t (by decide), if_neg (by decide)]
    simp only [bnd]
    rw [r_begin' ⟨by omega, by omega⟩, Option.bind_some, hτ1]
  have rl1 : RLp N 1 τ τ1 := RLp.one hK.1 ⟨hd.1, by omega⟩ f0.2 ⟨hK.2.1, by omega, by omega⟩ turn1
  have f1 : ∀ g : Nat, g ≠ 41 → fl τ1 g 0 = fl τ g 0 := fun g hg => by rw [hτ1, nwF_fl _ _ _ _ _ _ hg, fl_sfn _ _ _ _ hg]
  have nv := nwF_v (sf τ 41 0 (fl τ 41 0 - 1)) 8 (-1) 0
  rw [g41, ← hτ1] at nv
  have t41 : fl τ1 41 0 = d + 1 := by rw [hτ1, nwF_41, g41]
  have r1 : RDr (fl τ 16 0) d τ τ1 := by rw [hτ1]; exact nwF_rd ((RDr.rf _ _ τ).sf 41 _ (by omega)) _ _ _ (by omega)
  have lf1 : lf τ1 = lf τ := by unfold lf; rw [f1 1 (by decide), f1 4 (by decide)]
  have f13 := f1 13 (by decide)
  have f16 := f1 16 (by decide)
  -- the class
  obtain ⟨π1, σ2, c1, c2, c3, c4, c5, c6, c7, c8, c9⟩ := pc_new (N := N) (π := π) (σ := σ) (kd := 23) (place := fl σ 186 1)
  have e1 : EFt (bX b) (bY b) π σ π1 σ2 := EFt.nw c3 (Int.le_refl _) ⟨lx.1.2.1, lx.1.2.2.2.1⟩
  have x1 : XEs b Xo π1 σ2 τ1 L Kn := (h.cl hc e1 (fun g => c3.2.1 g 1 (by omega)) (h.2.2.2.2.2.1.nw (Int.le_refl _) n56 c3) h.2.2.2.2.2.2.2.2.2).rt hc r1 (by omega) hd.1 (by rw [f16]; exact v16) (fun g hg => f1 g (by omega))
  have s185 : fl σ2 185 1 = 40 := by rw [c3.2.1 185 1 (by omega)]; exact h1
  obtain ⟨π', σ', τ2, fc, t, q1, q2, q3, q4, q5⟩ := hF Xo π1 σ2 τ1 L Kn d x1 (by omega) (by rw [if_pos s185]; exact ⟨t41, nv.1, nv.2.2.1⟩) ⟨hd.1, by omega⟩ nv.2.1 (by unfold PRE at hB ⊢; rw [lf1, f16]; exact hB)
  obtain ⟨p1, p2, p3, p4⟩ := PC.ef hc x1 c6 c7 (by omega) q3
  obtain ⟨σ'', hσ''⟩ : ∃ σ'', σ'' = sf σ' 126 (nn π) fc := ⟨_, rfl⟩
  have kf : ∀ (f : Nat) (j : Int), ¬ (j = (nn π : Int) ∧ f = 126) → fl σ'' f j = fl σ' f j := fun f j hq => by rw [hσ'', fl_sf, if_neg (by omega)]
  have pw : PWr σ' σ'' (nn π) := by rw [hσ'']; exact PWr.sf _ 126 _ _ (by decide)
  have k1 : fl σ'' 1 (bX b) = fl σ' 1 (bX b) ∧ fl σ'' 1 (bY b) = fl σ' 1 (bY b) := ⟨kf 1 _ (by omega), kf 1 _ (by omega)⟩
  have e02 : EFt (bX b) (bY b) π σ π' σ'' := (e1.tr q3).own ⟨ext.rf _, fun f i hi => kf f i (by omega), fun a j _ => pw.2 a j⟩ k1
  have e186 : fl (zO σ (nn π) dfl) 186 1 = fl σ 186 1 := by rw [fl_zO, if_neg (by omega)]
  have cls : Rd_piece N rA rF π σ = some (π', σ'', (nn π : Int)) := by
    rw [Rd_piece, grd_t tk.kd.1, if_neg (by omega), if_pos h1, Rd_piece_73, c1, Option.bind_some, grd_t c2]
    simp only
    rw [Rd_piece_80, q1, Option.bind_some]
    simp only
    rw [Rd_piece_86, grd_t p1.1, hσ'']
  have rd2 : RDr (fl τ 16 0) d τ τ2 := r1.tr q4 (by omega) (Int.le_refl _)
  have k11 : ∀ y, y = bX b ∨ y = bY b → fl σ2 1 y = fl σ 1 y := fun y hy => c3.2.1 1 y (by omega)
  have cx1 : cpc π1 σ2 (bX b) = cpc π σ (bX b) := cpc_eq (k11 _ (Or.inl rfl)) c3.1 lx.2.1.1
  have cy1 : cpc π1 σ2 (bY b) = cpc π σ (bY b) := cpc_eq (k11 _ (Or.inr rfl)) c3.1 lx.2.1.2
  rw [if_pos s185] at q5
  have n12 := q3.1.1
  have pf : PCf π' σ'' (nn π) 23 (fl σ 186 1) 0 0 0 0 := by
    obtain ⟨v1, v2, v3, v4, v5, v6, v7⟩ := p1
    exact ⟨v1, by rw [kf 120 _ (by omega)]; exact v2, by rw [kf 121 _ (by omega)]; exact v3, by rw [kf 122 _ (by omega)]; exact v4, by rw [kf 123 _ (by omega)]; exact v5, by rw [kf 124 _ (by omega)]; exact v6, by rw [kf 125 _ (by omega)]; exact v7⟩
  have hA2 : (nn π : Int) < nn π1 := by omega
  have hA1 : (nn π : Int) < nn π' := by omega
  have pfx : PFx (nn π1) (nn π') (-1) π' σ' π' σ'' := ⟨ext.rf _, fun f i _ _ s1 _ _ => kf f i (fun w => by have := w.1; omega), fun a j _ _ _ => pw.2 a j⟩
  rcases q5 with ⟨y1, y2, y3⟩ | f
  · rw [lf1, f13] at y1 y2
    rw [lf1] at y3
    have lt' := y1.lt (q3.x hc x1)
    have cx : cpc π' σ'' (bX b) = cpc π' σ' (bX b) := cpc_eq k1.1 (ext.rf _) lt'.1
    have cy : cpc π' σ'' (bY b) = cpc π' σ' (bY b) := cpc_eq k1.2 (ext.rf _) lt'.2
    have fq : XQ b Xo π' σ'' τ2 (L.length + 2 * lf τ + 4 * (20 - fl τ 13 0)) (Kn.length + lf τ) := by
      obtain ⟨w1, ⟨τt, w2⟩, w3, w4, L', Kn', w5, w6, w7⟩ := y1
      exact ⟨w1, ⟨τt, w2.cg (fun g _ => kf g 1 (by omega)) (fun j => pw.2 2 j) (fun _ _ => rfl) (fun _ => rfl)⟩, ⟨by rw [kf 182 1 (by omega)]; exact w3.1, by rw [kf 183 1 (by omega)]; exact w3.2.1, w3.2.2⟩, by rw [kf 144 44 (by omega)]; exact w4, L', Kn', w5.pw pw, w6, w7⟩
    refine ⟨π', σ'', τ2, nn π, 1 + t, cls, rl1.tr q2, e02, rd2, Or.inl ⟨⟨fq.mono (by omega) (by omega), ⟨?_, ?_⟩, by push_cast; omega⟩, Or.inr ⟨p1.1, Int.le_refl _⟩⟩⟩
    · have := y2.1; omega
    · have := y2.2; omega
  · obtain ⟨seg, kn, c, av, w, z, k, m, kA, wA, zA, A, B, g1, ⟨g2, g3, g4⟩, g5, g6, g7, g8, g9, g10, g11, ⟨w1, w2, w3, w4⟩, ⟨y1, y2, y3, y4, y5, y6⟩, ⟨z1, z2, z3⟩⟩ := f
    rw [lf1] at w1 w2 w3 w4 y1 y2 y3 y4 y5 y6 z3
    rw [f13] at w1 w2 w3 w4 g4 g11
    rw [f16] at y4 g5 g7 g8 g11
    have lx' := g1.lt hc
    have cx : cpc π' σ'' (bX b) = cpc π' σ' (bX b) := cpc_eq k1.1 (ext.rf _) lx'.2.1.1
    have cy : cpc π' σ'' (bY b) = cpc π' σ' (bY b) := cpc_eq k1.2 (ext.rf _) lx'.2.1.2
    have x2 : XEs b Xo π' σ'' τ2 (L ++ seg) (Kn ++ kn) := g1.pw pw ⟨by omega, by omega⟩
    have f127 : fl σ'' 127 (nn π) = -1 := by rw [kf 127 _ (by omega), p3]; exact c8.2.1
    refine ⟨π', σ'', τ2, nn π, 1 + t, cls, rl1.tr q2, e02, rd2, Or.inr ⟨seg, kn, c, av, w, z, k, m, kA, wA, zA, A, B, x2, ⟨g2, g3, g4⟩, g5, g6, g7, g8, g9, ⟨p1.1, Int.le_refl _, by rw [f127]; omega⟩, fun q hq => ?_, ⟨⟨w1.1, by omega⟩, ⟨w2.1, by omega⟩, ⟨w3.1, by omega⟩, ⟨w4.1, by omega⟩⟩, ⟨y1, y2, y3, y4, by push_cast; omega, y6⟩, ⟨z1, z2, ?_, ?_⟩⟩⟩
    · obtain ⟨q', rfl⟩ : ∃ q', q = q' + 1 := ⟨q - 1, by omega⟩
      have w := g11 q' (by omega)
      have w2 : APs N (bD b) (bP b) (bV b) (fl τ 16 0) (fl τ2 16 0) m kA wA zA A B (Uoe dl b) av 11 c (nn π1) (nn π') (-1) π' σ'' τ2 (fun π σ p => Pc_applyAll N (Pc_applyC N q') π σ fc (bD b) p) := w.at pfx (fun a i _ _ _ _ _ => rfl)
      exact APs.group pf (by rw [hσ'', fl_sfs]) ⟨Int.le_refl _, hA1⟩ ⟨⟨Int.le_of_lt hA2, Int.le_refl _⟩, hA2⟩ w2
    · have := z3.1; omega
    · have := z3.2; omega
end PG9
