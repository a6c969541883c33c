/-! pieces: names -/
section PN9
variable {N : Nat} {b : Bse} {Xo : Int → Prop} {dl : List (Int × Int)} {rA rF : Sh → St → Option (Sh × St × Int)}
/-- a fault at once, for pieces and FUNs -/
theorem PIo.flt {π : Sh} {σ τ σ1 : St} {L : List Stq} {Kn : List Int} {d f p o : Int} {t : Nat} (hc : CTX b dl) (h : XEs b Xo π σ τ L Kn) (k : ERf σ σ1) (k1 : ∀ g : Nat, g = 181 ∨ (184 ≤ g ∧ g ≤ 190) → fl σ1 g 1 = fl σ g 1) (hf : 1 ≤ f ∧ f ≤ 4) (ht : t ≤ 200) (ho : o < 0) : PIo N b dl Xo L Kn d π σ τ π (sf (sf σ1 182 1 f) 183 1 p) (sf (sf τ 11 0 f) 12 0 p) o t := by
  obtain ⟨q1, q2, q3⟩ := EXo.flt (N := N) (dl := dl) (d := d) (c := 1) (v := 0) (f := f) (p := p) (o := 0) (t := t) hc h k k1 (RDr.rf (fl τ 16 0) d τ) hf ht (Int.le_refl _)
  rcases q3 with w | w
  · exact ⟨q1, q2, Or.inl ⟨w, Or.inl ho⟩⟩
  · exfalso
    obtain ⟨seg, kn, n, w', z, k', g1, -⟩ := w
    have := g1.2.2.1.2
    rw [fl_sfn _ _ _ _ (by decide), fl_sfs] at this
    omega
theorem WFt.pi {π0 π : Sh} {σ0 τ0 σ τ : St} {d : Int} {L0 : List Stq} {Kn0 : List Int} {T : Nat} (h : WFt b Xo d (fl τ0 16 0) (nn π0) L0 Kn0 π0 σ0 τ0 π σ τ T) : PIo N b dl Xo L0 Kn0 d π0 σ0 τ0 π σ τ (nn π0) T := ⟨h.2.2.2.1, h.2.2.2.2.1, Or.inl ⟨h.2.2.2.2.2, Or.inr ⟨h.1, Int.le_refl _⟩⟩⟩
set_option maxHeartbeats 4000000 in
/-- a piece that begins with a name -/
theorem pc_name {op d : Int} {π : Sh} {σ τ : St} {L : List Stq} {Kn : List Int} (hN : 30000001 ≤ N) (hc : CTX b dl) (hW : WTr b.2.2.1) (hA : ARH N b dl 5 1 0 11 rA op) (hF : FUH N b dl rF op) (h : XEs b Xo π σ τ L Kn) (hop : fl τ 13 0 = op) (hK : FRx τ d 9) (hd : 0 ≤ d ∧ d ≤ 10 * op + 9) (hB : PRE τ L Kn) (h1 : fl σ 185 1 = 1) : ∃ π' σ' τ' pc t, Rd_piece N rA rF π σ = some (π', σ', pc) ∧ RLp N t τ τ' ∧ PIo N b dl Xo L Kn d π σ τ π' σ' τ' pc t := by
  obtain ⟨p, f, e, σ1, r1, r2, r3, p1, f1, e1, k1, k2, k3, k4, k5, k6⟩ := kind_all (N := N) (by omega) hc h h1
  have cx := h.cx hc
  have tk := h.2.1
  have t3 : fl τ 3 0 = 2 := tk.kd.2.2.1.1 h1
  have f0 := h.2.2.1
  have op20 := h.2.2.2.1
  have v16 := h.2.2.2.2.2.2.2.2.1
  have bv : 0 ≤ bV b := by obtain ⟨-, -, -, -, -, -, -, -, -, q⟩ := hc; exact q
  have hP : bP b ≤ 4 := by obtain ⟨-, -, -, -, ⟨q, -⟩, -⟩ := hc; exact q.2
  have n16 : fl τ 16 0 < 32768 := by unfold PRE at hB; have := tk.lf; omega
  have w95 : ∀ g : Int, 0 ≤ g → g ≤ 20 → el τ 95 g = nuw (prg g ++ [4]) := fun g x y => by
    rw [h.2.2.2.2.2.2.2.1.2.1 95 g (by omega) (by omega)]; exact hW g x y
  have hde : e ≠ (-1, -1) → e ∈ dl := fun q => by rcases e1 with w | w; exact absurd w q; exact w
  have hdx : e ≠ (-1, -1) → (0 ≤ e.2 ∧ e.2 < 6000) ∧ el τ 81 e.2 = el b.2.2.1 81 e.2 ∧ (0 ≤ el τ 81 e.2 ∧ el τ 81 e.2 ≤ 4) := fun q => by
    have y1 := cx.2.2.2.2.2.2.2.2.1 e (hde q)
    have y2 := cx.2.2.2.2.2.2.2.2.2 e (hde q)
    exact ⟨y1.2.2.2, y2.2.1, by rw [← y2.1]; exact y1.2.2.1⟩
  have p1' : -1 ≤ p ∧ p < 5 := by omega
  have f1' : -1 ≤ f ∧ f ≤ 20 := by omega
  clear p1 f1 e1
  -- the reference's turn
  have rtop : rdK N 9 τ d = if p = -1 then r_readPiece_187 N τ d e.2 f else some (sf (sf τ 11 0 2) 12 0 (fl τ 4 0)) := by
    show r_readPiece N τ d = _
    rw [r_readPiece, grd_t (by exact ⟨hd.1, by omega⟩), hK.2.2, grd_t (by decide), if_neg (by decide), if_neg (by decide), tk.sign (c := 40) (by unfold isSgB; omega), Option.bind_some]
    simp only
    rw [if_neg (show ¬ fl σ 185 1 = 40 by omega), grd_t (by decide), if_pos rfl, tk.op.1, Option.bind_some]
    simp only
    rw [if_neg (show ¬ isOpB (fl σ 185 1) by unfold isOpB; omega), grd_t (by decide), if_pos rfl, t3, grd_t (by decide), if_pos rfl, r1, Option.bind_some]
    simp only
    rw [grd_t (by exact ⟨by omega, by omega⟩)]
    by_cases c : p = -1
    · rw [if_pos c, if_pos c, r3, Option.bind_some]
      simp only
      rw [r_readPiece_170, r1, Option.bind_some]
      simp only
      rw [grd_t (by exact ⟨by omega, by omega⟩), if_pos c, r2, Option.bind_some]
    · rw [if_neg c, if_neg c, r_readPiece_170, r1, Option.bind_some]
      simp only
      rw [grd_t (by exact ⟨by omega, by omega⟩), if_neg c, r_readPiece_187, grd_t (by decide), if_pos rfl, grd_t (by decide), if_pos rfl, r_readPiece_207, r_fail0 f0.2, Option.bind_some]
  have flt2 : (¬ (p < 0 ∧ 0 ≤ f)) → (¬ (p < 0 ∧ f < 0 ∧ e ≠ (-1, -1) ∧ el b.2.2.1 81 e.2 ≠ 0)) → ∃ π' σ' τ' pc t, Rd_piece N rA rF π σ = some (π', σ', pc) ∧ RLp N t τ τ' ∧ PIo N b dl Xo L Kn d π σ τ π' σ' τ' pc t := by
    intro z1 z2
    have turn : rdK N 9 τ d = some (sf (sf τ 11 0 2) 12 0 (fl τ 4 0)) := by
      rw [rtop]
      by_cases c : p = -1
      · rw [if_pos c, r_readPiece_187, grd_t (by exact ⟨by omega, by omega⟩), if_pos (by omega)]
        have fl2 : r_readPiece_207 N τ = some (sf (sf τ 11 0 2) 12 0 (fl τ 4 0)) := by rw [r_readPiece_207, r_fail0 f0.2, Option.bind_some]
        by_cases c2 : e = (-1, -1)
        · have : e.2 = -1 := by rw [c2]
          rw [this, grd_t (by decide), if_pos rfl, fl2]
        · have w := hdx c2
          have z : el τ 81 e.2 = 0 := by
            by_cases q : el τ 81 e.2 = 0
            · exact q
            · exact absurd ⟨by omega, by omega, c2, by omega⟩ z2
          rw [grd_t (by exact ⟨by omega, by omega⟩), if_neg (by omega), grd_t (by exact ⟨w.1.1, w.1.2⟩), grd_t (by exact ⟨by omega, by omega⟩), if_pos z, fl2]
      · rw [if_neg c]
    obtain ⟨q, hq⟩ : ∃ q, q = if 0 ≤ p then (1 : Int) else if 0 ≤ f then 2 else if e = (-1, -1) then 0 else if el b.2.2.1 81 e.2 = 0 then 3 else 4 := ⟨_, rfl⟩
    have q24 : i32 q ∧ q ≠ 2 ∧ q ≠ 4 := by
      by_cases c1 : 0 ≤ p
      · rw [if_pos c1] at hq; rw [hq]; decide
      · rw [if_neg c1, if_neg (by omega)] at hq
        by_cases c3 : e = (-1, -1)
        · rw [if_pos c3] at hq; rw [hq]; decide
        · rw [if_neg c3] at hq
          by_cases c4 : el b.2.2.1 81 e.2 = 0
          · rw [if_pos c4] at hq; rw [hq]; decide
          · exact absurd ⟨by omega, by omega, c3, c4⟩ z2
    rw [← hq] at k3
    refine ⟨π, _, _, -1, 1, ?_, RLp.one hK.1 ⟨hd.1, by omega⟩ f0.2 ⟨hK.2.1, by omega, by omega⟩ turn, PIo.flt (N := N) (p := fl τ 4 0) (f := 2) (o := -1) (t := 1) hc h k1 (fun g _ => k2 g) (by omega) (by omega) (by decide)⟩
    rw [Rd_piece, grd_t tk.kd.1, if_pos h1, k3, Option.bind_some]
    simp only
    have fz : fl σ1 182 1 = 0 := by rw [k2]; exact f0.1
    rw [grd_t q24.1, if_neg q24.2.1, if_neg q24.2.2, c_fail (by rw [fz]; decide), Option.bind_some, flS, if_pos fz, tk.2.1]
  -- where the frame comes from
  have mkT : ∀ (K vR W : Int) (τa : St), fl τa 41 0 = d + 1 → r_readPiece_315 N (se (se τa 73 d (fl τ 16 0)) 72 d 1) W (fl τ 16 0) 6 = some (nwF (se (se τa 73 d (fl τ 16 0)) 72 d 1) 6 (fl τ 16 0) W) ∧ TWo d (fl τ 16 0) W τa (nwF (se (se τa 73 d (fl τ 16 0)) 72 d 1) 6 (fl τ 16 0) W) := fun K vR W τa h41 => by
    constructor
    · rw [r_readPiece_315, r_begin' (by rw [fl_se, fl_se, h41]; exact ⟨by omega, by omega⟩), Option.bind_some]
    · exact tw_mk h41 (fun f i => by rw [fl_se, fl_se]) (fun a i hq => by rw [el_se, if_neg (by omega), el_se, if_neg (by omega)]) ⟨by rw [el_ses], by rw [el_sen _ _ _ _ (by decide), el_ses]⟩
  by_cases cF : p < 0 ∧ 0 ≤ f
  · -- a function
    have kK : (if f = 4 then (9 : Int) else 13) = 9 ∨ (if f = 4 then (9 : Int) else 13) = 13 := by
      by_cases c : f = 4
      · rw [if_pos c]; exact Or.inl rfl
      · rw [if_neg c]; exact Or.inr rfl
    obtain ⟨K, hKd⟩ : ∃ K : Int, K = if f = 4 then 9 else 13 := ⟨_, rfl⟩
    rw [← hKd] at kK
    obtain ⟨z1, z2⟩ := prg_ok f ⟨cF.2, f1'.2⟩
    obtain ⟨π', σ', τp', t, q1, q2, q3⟩ := nm_fun (rA := rA) (rF := rF) (f := f) (K := K) (Kd := 9) (d := d) (tail := []) hN hc h hB hop ⟨hd.1, by omega⟩ ⟨hK.2.1, hK.1, by decide, by decide⟩ k1 k2 h1 (by omega) ⟨cF.2, f1'.2⟩ (k5 cF.1 cF.2) (fun x hx => absurd hx (by simp)) (by simp) hA hF (fun τa w1 w2 w3 => by
      obtain ⟨y1, y2⟩ := mkT K f (nuw (prg f ++ [])) τa w2
      refine ⟨_, ?_, y2⟩
      rw [rtop, if_pos (by omega), r_readPiece_187, grd_t (by exact ⟨by omega, by omega⟩), if_neg (by omega), r_readPiece_217, grd_t (by exact ⟨by omega, by omega⟩)]
      have body : r_readPiece_239 N τ d e.2 f K = some (nwF (se (se τa 73 d (fl τ 16 0)) 72 d 1) 6 (fl τ 16 0) (nuw (prg f ++ []))) := by
        rw [r_readPiece_239, r_node' ⟨by omega, n16⟩, Option.bind_some]
        simp only
        rw [grd_t (by exact ⟨by omega, by omega⟩), if_neg (by omega), r_readPiece_263, grd_t (by exact ⟨by omega, n16⟩)]
        simp only [bnd]
        rw [w1, Option.bind_some, grd_t (by exact ⟨hd.1, by omega⟩), grd_t (by exact ⟨by omega, by omega⟩), if_neg (by omega), grd_t (by exact ⟨cF.2, by omega⟩), w3 95 f (Or.inr rfl), w95 f cF.2 f1'.2, grd_t z1, z2, ← y1, List.append_nil]
      by_cases c : f = 4
      · rw [if_pos c] at hKd ⊢
        rw [hKd] at body
        exact body
      · rw [if_neg c] at hKd ⊢
        rw [if_neg (by omega)]
        rw [hKd] at body
        exact body)
    have cls : Rd_piece N rA rF π σ = some (π', σ', (nn π : Int)) := by
      have hq : (if 0 ≤ p then (1 : Int) else if 0 ≤ f then 2 else if e = (-1, -1) then 0 else if el b.2.2.1 81 e.2 = 0 then 3 else 4) = 2 := by rw [if_neg (by omega), if_pos cF.2]
      rw [hq] at k3
      rw [Rd_piece, grd_t tk.kd.1, if_pos h1, k3, Option.bind_some]
      simp only
      rw [grd_t (by decide), if_pos trivial, Rd_piece_41, q1, Option.bind_some, Rd_piece_46]
    rcases q3 with q | ⟨τi, e0, a, a2, c, c2, w1, w2, w3⟩
    · exact ⟨π', σ', τp', nn π, t, cls, q2, q.pi⟩
    · have e71 : el τi 71 (d + 1) = 0 := w2
      rcases w3 with ⟨l, kn, w4, w5⟩ | ⟨x, kn, fc, m, kA, wA, zA, A, B, w4, w5, w6, w7⟩
      · obtain ⟨v1, v2⟩ := w5 f1'.2
        obtain ⟨τ2, u1, u2⟩ := pi_end_w hN hc h hB hop ⟨hd.1, by omega⟩ w4 w1 e71 (Or.inl ⟨rfl, ⟨cF.2, f1'.2⟩, v1, by
          rcases v2 with ⟨v3, v4⟩ | ⟨v3, v4⟩
          · refine Or.inl ⟨v3, v4, ?_⟩
            by_cases c : f = 4
            · rw [if_pos c] at hKd ⊢; exact hKd
            · rw [if_neg c] at hKd ⊢; exact hKd
          · rw [if_neg (by omega)] at hKd
            exact Or.inr ⟨v3, v4, hKd⟩⟩)
        exact ⟨π', σ', τ2, nn π, t + 2, cls, q2.tr u1, u2⟩
      · rw [if_neg (by omega)] at hKd
        rw [hKd] at w4
        obtain ⟨τ2, u1, u2⟩ := pi_end_f hN hc h hB hop ⟨hd.1, by omega⟩ ⟨cF.2, f1'.2⟩ w4 w1 e71 w5 w6 w7
        exact ⟨π', σ', τ2, nn π, t + 2, cls, q2.tr u1, u2⟩
  by_cases cD : p < 0 ∧ f < 0 ∧ e ≠ (-1, -1) ∧ el b.2.2.1 81 e.2 ≠ 0
  · obtain ⟨d1, d2, d3, d4⟩ := cD
    have w := hdx d3
    obtain ⟨k, hk⟩ : ∃ k : Nat, (k : Int) + 1 = el b.2.2.1 81 e.2 := ⟨(el b.2.2.1 81 e.2 - 1).toNat, by omega⟩
    obtain ⟨π', σ', τp', t, q1, q2, q3⟩ := nm_def (rA := rA) (rF := rF) (e := e) (k := k) (K := 10) (Kd := 9) (d := d) (tail := []) hN hc h hB hop ⟨hd.1, by omega⟩ ⟨hK.2.1, hK.1, by decide, by decide⟩ k1 k2 h1 (by decide) (hde d3) ⟨hk.symm, by omega⟩ (k6 d1 d2 (hde d3)) (fun x hx => absurd hx (by simp)) (by simp) hA (fun τa w1 w2 w3 => by
      obtain ⟨y1, y2⟩ := mkT 10 e.2 (nuw (List.replicate k 4 ++ [])) τa w2
      refine ⟨_, ?_, y2⟩
      rw [rtop, if_pos (by omega), r_readPiece_187, grd_t (by exact ⟨by omega, by omega⟩), if_pos (by omega), grd_t (by exact ⟨by omega, by omega⟩), if_neg (by omega), grd_t (by exact ⟨w.1.1, w.1.2⟩), grd_t (by exact ⟨by omega, by omega⟩), if_neg (by omega), r_readPiece_217, grd_t (by exact ⟨by omega, by omega⟩), if_neg (by omega), if_pos (by omega), r_readPiece_239, r_node' ⟨by omega, n16⟩, Option.bind_some]
      simp only
      rw [grd_t (by exact ⟨by omega, by omega⟩), if_pos (by omega), r_readPiece_263, grd_t (by exact ⟨by omega, n16⟩)]
      simp only [bnd]
      have ek : el τa 81 e.2 - 1 = (k : Int) := by rw [w3 81 _ (Or.inl rfl)]; omega
      rw [w1, Option.bind_some, grd_t (by exact ⟨hd.1, by omega⟩), grd_t (by exact ⟨by omega, by omega⟩), if_pos (by omega), grd_t (by exact ⟨w.1.1, w.1.2⟩), ek, all_ok k (by omega), Option.bind_some, ← y1, List.append_nil])
    have cls : Rd_piece N rA rF π σ = some (π', σ', (nn π : Int)) := by
      have hq : (if 0 ≤ p then (1 : Int) else if 0 ≤ f then 2 else if e = (-1, -1) then 0 else if el b.2.2.1 81 e.2 = 0 then 3 else 4) = 4 := by rw [if_neg (by omega), if_neg (by omega), if_neg d3, if_neg d4]
      rw [hq] at k3
      rw [Rd_piece, grd_t tk.kd.1, if_pos h1, k3, Option.bind_some]
      simp only
      rw [grd_t (by decide), if_neg (by decide), if_pos trivial, Rd_piece_41, q1, Option.bind_some, Rd_piece_46]
    rcases q3 with q | ⟨τi, l', kn', w1, w2, w3, w4⟩
    · exact ⟨π', σ', τp', nn π, t, cls, q2, q.pi⟩
    · have e71 : el τi 71 (d + 1) = 0 := w2
      have oe := (cx.2.2.2.2.2.2.2.2.1 e (hde d3)).1.ext w3.2.2.2.1.1
      obtain ⟨τ2, u1, u2⟩ := pi_end_w hN hc h hB hop ⟨hd.1, by omega⟩ w3 w1 e71 (Or.inr ⟨rfl, rfl, oe, hde d3, by omega⟩)
      exact ⟨π', σ', τ2, nn π, t + 2, cls, q2.tr u1, u2⟩
  exact flt2 cF cD
end PN9
