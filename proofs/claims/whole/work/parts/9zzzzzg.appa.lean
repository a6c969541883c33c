/-! applications -/
section AQ9
variable {N : Nat} {b : Bse} {Xo : Int → Prop} {dl : List (Int × Int)} {rA rF : Sh → St → Option (Sh × St × Int)}
theorem EXo.er {L : List Stq} {Kn : List Int} {d c v o : Int} {π π' : Sh} {σ σ1 τ σ' τ' : St} {t : Nat} (hc : CTX b dl) (h0 : XEs b Xo π σ τ L Kn) (k : ERf σ σ1) (h : EXo N b dl Xo L Kn d c v π σ1 τ π' σ' τ' o t) : EXo N b dl Xo L Kn d c v π σ τ π' σ' τ' o t := by
  have lx := h0.lt hc
  have rm : RmE (bX b) (bY b) π σ π σ1 0 0 := RmE.er k ⟨lx.1.1, lx.1.2.2.1⟩ lx.2.1 ⟨by omega, by omega⟩
  obtain ⟨q1, q2, q3⟩ := h
  refine ⟨(EFt.rd k ⟨lx.1.1, lx.1.2.2.1⟩).tr q1, q2, ?_⟩
  rcases q3 with ⟨f1, f2, f3⟩ | ⟨seg, kn, n, w, z, k', g1, g2, g3, g4, g5, g6, g7, g8, g9⟩
  · exact Or.inl ⟨f1, (rm.tr f2).mono (by omega) (by omega), f3⟩
  · exact Or.inr ⟨seg, kn, n, w, z, k', g1, g2, g3, g4, g5, g6, g7, g8, (rm.tr g9).mono (by omega) (by omega)⟩
theorem wst_wlt {fC fR K us d n pc place op e0 a a2 c c2 : Int} {L0 : List Stq} {Kn0 kn : List Int} {π0 π : Sh} {σ0 τ0 σ τ : St} {l : List Ech} {T : Nat} (h : WST N b dl Xo fC fR K 4 us d n pc place op e0 L0 Kn0 π0 σ0 τ0 π σ τ a a2 c c2 l kn T) : WLT N b dl (fun x => Xo x ∨ x = pc + 1) d n pc op e0 L0 Kn0 π0 σ0 τ0 π σ τ l kn T := by
  obtain ⟨a1, a2', a3, a4, a5, a6, a7, a8, a9, a10, a11, a12, a13, a14, a15, b1, b2, b3, b4, b5, b6, b7, b8⟩ := h
  exact ⟨a1, ⟨a3.1, by omega⟩, a4, a5, a6, a7, a8, a9, a11, a12, a13, ⟨a15.1, a15.2, by omega⟩, b1, by omega, b4, b5, b6⟩
theorem wsf_wlt {fC fR K d n pc place op e0 a a2 c c2 fc wA zA A B : Int} {m kA : Nat} {L0 : List Stq} {Kn0 kn : List Int} {π0 π : Sh} {σ0 τ0 σ τ : St} {x : Ech} {T : Nat} (ho : op ≤ 20) (h : WSF N b dl Xo fC fR K 4 d n pc place op e0 L0 Kn0 π0 σ0 τ0 π σ τ a a2 c c2 x kn T fc m kA wA zA A B) : WLT N b dl Xo d n pc op e0 L0 Kn0 π0 σ0 τ0 π σ τ [x] kn T := by
  obtain ⟨a1, a2', a5, a6, a7, a8, a9, a10, a11, a12, a14, a15, a16, a17, a18, ⟨w1, w2, w3, w4⟩, ⟨y1, y2, y3, y4, y5, y6⟩, a21, a23, a24⟩ := h
  have eg : egs [x] = eS x := by show eS x ++ [] = _; rw [List.append_nil]
  refine ⟨by rw [eg]; exact a1, a5, a6, a7, a8, a9, a10, a11, a14, a15, by rw [eg]; exact a16, ⟨by simp, y6.1, by omega⟩, ⟨⟨by omega, by omega, by omega⟩, ?_⟩, by omega, by rw [eg]; omega, y3, y5⟩
  show 0 ≤ _ - 1
  omega
set_option maxHeartbeats 4000000 in
theorem app_all {op : Int} (hN : 30000001 ≤ N) (hc : CTX b dl) (hW : WTr b.2.2.1) (hA : ARH N b dl 5 1 0 11 rA op) (hF : FUH N b dl rF op) : ARH N b dl 4 6 1 5 (Rd_app N rA rF) op := by
  intro Xo π σ τ L Kn d h hop hK hd h73 hB
  have tk := h.2.1
  have l0 := tk.lf
  have f0 := h.2.2.1
  have op20 := h.2.2.2.1
  have v16 := h.2.2.2.2.2.2.2.2.1
  have bv : 0 ≤ bV b := by obtain ⟨-, -, -, -, -, -, -, -, -, q⟩ := hc; exact q
  have hP : bP b ≤ 4 := by obtain ⟨-, -, -, -, ⟨q, -⟩, -⟩ := hc; exact q.2
  have n16 : fl τ 16 0 < 32768 := by unfold PRE at hB; omega
  have t37 := tk.kd.2.1
  -- an argument alone
  have plain : ∀ σ1 : St, ERf σ σ1 → (∀ g : Nat, fl σ1 g 1 = fl σ g 1) → rdK N 4 τ d = r_readApp_203 N τ → (∀ π' σ' o, rA π σ1 = some (π', σ', o) → Rd_app N rA rF π σ = some (π', σ', o)) → ∃ π' σ' τ' o t, Rd_app N rA rF π σ = some (π', σ', o) ∧ RLp N t τ τ' ∧ EXo N b dl Xo L Kn d 6 1 π σ τ π' σ' τ' o t := by
    intro σ1 k1 k2 r1 r2
    obtain ⟨τ1, hτ1⟩ : ∃ τ1, τ1 = nwF (sf τ 41 0 (fl τ 41 0 - 1)) 5 (-1) 0 := ⟨_, rfl⟩
    have g41 : fl (sf τ 41 0 (fl τ 41 0 - 1)) 41 0 = d := by rw [fl_sfs, hK.1]; omega
    have f1 : ∀ g : Nat, g ≠ 41 → fl τ1 g 0 = fl τ g 0 := fun g hg => by rw [hτ1, nwF_fl _ _ _ _ _ _ hg, fl_sfn _ _ _ _ hg]
    have nv := nwF_v (sf τ 41 0 (fl τ 41 0 - 1)) 5 (-1) 0
    rw [g41, ← hτ1] at nv
    have t41 : fl τ1 41 0 = d + 1 := by rw [hτ1, nwF_41, g41]
    have rd1 : RDr (fl τ 16 0) d τ τ1 := by rw [hτ1]; exact nwF_rd ((RDr.rf _ _ τ).sf 41 _ (by omega)) _ _ _ (by omega)
    have turn : rdK N 4 τ d = some τ1 := by
      rw [r1, r_readApp_203]
      simp only [bnd]
      rw [r_begin' (by rw [g41]; exact ⟨by omega, by omega⟩), Option.bind_some, hτ1]
    have h1 := h.fo hc k1 k2
    have x1 : XEs b Xo π σ1 τ1 L Kn := h1.rt hc rd1 (by omega) hd.1 (by rw [f1 16 (by decide)]; exact v16) (fun g hg => f1 g (by omega))
    have x1' : XEs b Xo π σ τ1 L Kn := h.rt hc rd1 (by omega) hd.1 (by rw [f1 16 (by decide)]; exact v16) (fun g hg => f1 g (by omega))
    have lf1 : lf τ1 = lf τ := by unfold lf; rw [f1 1 (by decide), f1 4 (by decide)]
    have f13 := f1 13 (by decide)
    have f16 := f1 16 (by decide)
    obtain ⟨π', σ', τ2, o, t, q1, q2, q3⟩ := hA Xo π σ1 τ1 L Kn d x1 (by omega) ⟨t41, nv.1, nv.2.2.1⟩ ⟨hd.1, by omega⟩ nv.2.1 (by unfold PRE at hB ⊢; rw [lf1, f16]; exact hB)
    obtain ⟨s1, s2, s3⟩ := q3.er hc x1' k1
    refine ⟨π', σ', τ2, o, 1 + t, r2 _ _ _ q1, (RLp.one hK.1 ⟨hd.1, by omega⟩ f0.2 ⟨hK.2.1, by omega, by omega⟩ turn).tr q2, s1, rd1.tr s2 (by omega) (Int.le_refl _), ?_⟩
    rcases s3 with s | s
    · exact Or.inl (s.up (by omega) f13 (by omega) (by push_cast; omega))
    · have s' := s
      obtain ⟨seg, kn, n, w, z, k, g1, g2, -⟩ := s
      exact Or.inr (s'.up hc ⟨lf1, f13, f16⟩ (by omega) (by push_cast; omega) (RDr.rf _ _ _) ⟨g2.1, fun _ _ => rfl⟩ (fun _ _ _ => rfl))
  by_cases h1 : fl σ 185 1 = 1
  · obtain ⟨p, f, e, σ1, r1, r2, r3, p1, f1, e1, k1, k2, k3, k4, k5, k6⟩ := kind_all (N := N) (by omega) hc h h1
    have cx := h.cx hc
    have t3 : fl τ 3 0 = 2 := tk.kd.2.2.1.1 h1
    have w95 : ∀ g : Int, 0 ≤ g → g ≤ 20 → el τ 95 g = nuw (prg g ++ [4]) := fun g x y => by
      rw [h.2.2.2.2.2.2.2.1.2.1 95 g (by omega) (by omega)]; exact hW g x y
    have hde : e ≠ (-1, -1) → e ∈ dl := fun q => by rcases e1 with w | w; exact absurd w q; exact w
    have hdx : e ≠ (-1, -1) → (0 ≤ e.2 ∧ e.2 < 6000) ∧ el τ 81 e.2 = el b.2.2.1 81 e.2 ∧ (0 ≤ el τ 81 e.2 ∧ el τ 81 e.2 ≤ 4) := fun q => by
      have y1 := cx.2.2.2.2.2.2.2.2.1 e (hde q)
      have y2 := cx.2.2.2.2.2.2.2.2.2 e (hde q)
      exact ⟨y1.2.2.2, y2.2.1, by rw [← y2.1]; exact y1.2.2.1⟩
    have e2b : -1 ≤ e.2 ∧ e.2 < 6000 := by
      by_cases q : e = (-1, -1)
      · rw [q]; decide
      · have := hdx q; omega
    have p1' : -1 ≤ p ∧ p < 5 := by omega
    have f1' : -1 ≤ f ∧ f ≤ 20 := by omega
    clear p1 f1 e1
    have rtop : rdK N 4 τ d = if p = -1 then r_readApp_70 N τ d e.2 f else r_readApp_203 N τ := by
      show r_readApp N τ d = _
      rw [r_readApp, grd_t (by exact ⟨hd.1, by omega⟩), hK.2.2, grd_t (by decide), if_neg (by decide), t3, grd_t (by decide), if_pos rfl, r1, Option.bind_some]
      simp only
      rw [grd_t (by exact ⟨by omega, by omega⟩)]
      by_cases c : p = -1
      · rw [if_pos c, if_pos c, r3, Option.bind_some]
        simp only
        rw [r_readApp_45, t3, grd_t (by decide), if_pos rfl, r1, Option.bind_some]
        simp only
        rw [grd_t (by exact ⟨by omega, by omega⟩), if_pos c, r2, Option.bind_some]
      · rw [if_neg c, if_neg c, r_readApp_44, r_readApp_45, t3, grd_t (by decide), if_pos rfl, r1, Option.bind_some]
        simp only
        rw [grd_t (by exact ⟨by omega, by omega⟩), if_neg c, r_readApp_69, r_readApp_70, grd_t (by decide), if_pos (by decide), grd_t (by decide), if_pos (by decide)]
    obtain ⟨kq, hkq⟩ : ∃ q, q = if 0 ≤ p then (1 : Int) else if 0 ≤ f then 2 else if e = (-1, -1) then 0 else if el b.2.2.1 81 e.2 = 0 then 3 else 4 := ⟨_, rfl⟩
    rw [← hkq] at k3
    have mkT : ∀ (W : Int) (τa : St), fl τa 41 0 = d + 1 → r_begin N (se (se τa 72 d 1) 73 d (fl τ 16 0)) 6 (fl τ 16 0) W = some (nwF (se (se τa 72 d 1) 73 d (fl τ 16 0)) 6 (fl τ 16 0) W) ∧ TWo d (fl τ 16 0) W τa (nwF (se (se τa 72 d 1) 73 d (fl τ 16 0)) 6 (fl τ 16 0) W) := fun W τa h41 => by
      constructor
      · exact r_begin' (by rw [fl_se, fl_se, h41]; exact ⟨by omega, by omega⟩)
      · exact tw_mk h41 (fun f i => by rw [fl_se, fl_se]) (fun a i hq => by rw [el_se, if_neg (by omega), el_se, if_neg (by omega)]) ⟨by rw [el_sen _ _ _ _ (by decide), el_ses], by rw [el_ses]⟩
    -- a fault among what it wants
    have wft : ∀ (π' : Sh) (σ' τp' : St) (t : Nat), RLp N t τ τp' → WFt b Xo d (fl τ 16 0) (nn π) L Kn π σ τ π' σ' τp' t → (∀ r, Rd_app_48 N rA rF π' σ' (nn π) = r → Rd_app N rA rF π σ = r) → ∃ π' σ' τ' o t, Rd_app N rA rF π σ = some (π', σ', o) ∧ RLp N t τ τ' ∧ EXo N b dl Xo L Kn d 6 1 π σ τ π' σ' τ' o t := by
      intro π' σ' τp' t q2 hw hr
      obtain ⟨z1, z2, z3, z4, z5, z6⟩ := hw
      refine ⟨π', σ', τp', 0, t, hr _ ?_, q2, z4, z5, Or.inl (z6.up (Int.le_refl _) rfl (by omega) (by omega))⟩
      rw [Rd_app_48, grd_t z3, if_neg z2, Rd_app_67, grd_t z3, if_neg z2]
    have t4 : ∀ x ∈ [(4 : Int)], 1 ≤ x ∧ x ≤ 4 := fun x hx => by
      have : x = 4 := by simpa using hx
      omega
    by_cases cF : p < 0 ∧ 0 ≤ f
    · -- a function
      rw [if_neg (by omega), if_pos cF.2] at hkq
      obtain ⟨π', σ', τp', t, q1, q2, q3⟩ := nm_fun (rA := rA) (rF := rF) (f := f) (K := 8) (Kd := 4) (d := d) (tail := [4]) hN hc h hB hop ⟨hd.1, by omega⟩ ⟨hK.2.1, hK.1, by decide, by decide⟩ k1 k2 h1 (by decide) ⟨cF.2, f1'.2⟩ (k5 cF.1 cF.2) t4 (by simp) hA hF (fun τa w1 w2 w3 => by
        obtain ⟨y1, y2⟩ := mkT (nuw (prg f ++ [4])) τa w2
        refine ⟨_, ?_, y2⟩
        rw [rtop, if_pos (by omega), r_readApp_70, grd_t (by exact ⟨by omega, by omega⟩), if_neg (by omega), r_node' ⟨by omega, n16⟩, Option.bind_some]
        simp only
        rw [grd_t (by exact ⟨by omega, n16⟩)]
        simp only [bnd]
        rw [w1, Option.bind_some, grd_t (by exact ⟨hd.1, by omega⟩), grd_t (by exact ⟨cF.2, by omega⟩), w3 95 f (Or.inr rfl), w95 f cF.2 f1'.2, y1, Option.bind_some])
      have cls : ∀ r, Rd_app_48 N rA rF π' σ' (nn π) = r → Rd_app N rA rF π σ = r := fun r hr => by
        rw [Rd_app, grd_t tk.kd.1, if_pos h1, k3, Option.bind_some]
        simp only
        rw [hkq, grd_t (by decide), if_pos rfl, Rd_app_43, q1, Option.bind_some]
        exact hr
      rcases q3 with q | ⟨τi, e0, a, a2, c, c2, w1, w2, w3⟩
      · exact wft π' σ' τp' t q2 q cls
      · rcases w3 with ⟨l, kn, w4, w5⟩ | ⟨x, kn, fc, m, kA, wA, zA, A, B, w4, w5, w6, w7⟩
        · obtain ⟨v1, v2⟩ := w5 f1'.2
          have wl := wst_wlt w4
          obtain ⟨a1, ⟨g1, g2, g3, g4, g5⟩, a3, a4, a5, a6, a7, a8, a9, ⟨a10, a10'⟩, a11, a12, a13, a14, a15, b1, b2, b3, b4, b5, b6, b7, b8⟩ := id w4
          have hap : APQ N b dl Xo (fl τ 16 0) (nn π) op e0 L Kn π π' σ' τi l 1 1 6 60 := by
            rcases v2 with ⟨v3, v4⟩ | ⟨v3, v4⟩
            · rw [v4]
              exact apq_one hN hP g1 ⟨by omega, by omega⟩ v3 a10 a10' (v1.iv ⟨cF.2, f1'.2⟩) (by omega) ⟨by omega, by omega⟩
            · obtain ⟨x, hx⟩ : ∃ x, l = [x] := by
                cases l with
                | nil => simp at v4
                | cons y ys => cases ys with
                  | nil => exact ⟨y, rfl⟩
                  | cons _ _ => simp at v4
              have xo := a14 x (by rw [hx]; simp)
              obtain ⟨oa, ho⟩ : ∃ o, eO x = some o := by
                cases e : eO x with
                | none => exact absurd e xo
                | some o => exact ⟨o, rfl⟩
              have e1 : eou l = [oa] := by rw [hx]; show (match eO x with | some o => [o] | none => []) ++ [] = _; rw [ho]; rfl
              rw [e1] at g2
              rw [hx]
              exact apq_two hN hP g1 g2 ⟨by omega, by omega⟩ (by rw [g3]; omega) v3 ho a10 a10' (by omega) ⟨by omega, by omega⟩
          have ll : l.length ≤ 1 := by
            rcases v2 with ⟨-, v4⟩ | ⟨-, v4⟩
            · rw [v4]; simp
            · omega
          obtain ⟨π2, σ2, τ2, o, t2, u1, u2, u3⟩ := app_last (rF := rF) hN hc h hB ⟨hd.1, by omega⟩ hop wl (fun x hx => Or.inl hx) w1 w2 hA g1.1 (Or.inr a10') hap (by omega) (by omega) ⟨by omega, by omega⟩ (by omega) (by omega)
          exact ⟨π2, σ2, τ2, o, t + t2, cls _ u1, q2.tr u2, u3⟩
        · have wl := wsf_wlt (by omega) w4
          have hap := apq_fun hN hP w4 w5 w6 (by omega) ⟨by omega, by omega⟩
          obtain ⟨a1, ⟨g1, g2, g3⟩, a5, a6, a7, a8, a9, a10, a11, ⟨a12, a13⟩, a14, a15, a16, a17, a18, -, ⟨y1, y2, y3, y4, y5, y6⟩, a21, a23, a24⟩ := id w4
          have ek : ekk [x] = eK x + 2 + 1 := rfl
          have eg : egs [x] = eS x := by show eS x ++ [] = _; rw [List.append_nil]
          by_cases s : f = 18 ∨ f = 7 ∨ f = 12
          · have e01 := w7 s
            rw [if_pos s, if_pos s, if_pos s, if_pos s] at hap
            obtain ⟨π2, σ2, τ2, o, t2, u1, u2, u3⟩ := app_last (rF := rF) hN hc h hB ⟨hd.1, by omega⟩ hop wl (fun x hx => hx) w1 w2 hA g1.1 (Or.inr a13) hap (by rw [ek]; push_cast; omega) (by rw [eg]; push_cast; omega) ⟨by omega, by omega⟩ (by omega) (by omega)
            exact ⟨π2, σ2, τ2, o, t + t2, cls _ u1, q2.tr u2, u3⟩
          · rw [if_neg s, if_neg s, if_neg s, if_neg s] at hap
            obtain ⟨π2, σ2, τ2, o, t2, u1, u2, u3⟩ := app_last (rF := rF) hN hc h hB ⟨hd.1, by omega⟩ hop wl (fun x hx => hx) w1 w2 hA g1.1 (Or.inr a13) hap (by rw [ek]; push_cast; omega) (by rw [eg]; push_cast; omega) ⟨by omega, by omega⟩ (by omega) (by omega)
            exact ⟨π2, σ2, τ2, o, t + t2, cls _ u1, q2.tr u2, u3⟩
    by_cases cD : p < 0 ∧ f < 0 ∧ e ≠ (-1, -1) ∧ el b.2.2.1 81 e.2 ≠ 0
    · -- a definition
      obtain ⟨d1, d2, d3, d4⟩ := cD
      have w := hdx d3
      rw [if_neg (by omega), if_neg (by omega), if_neg d3, if_neg d4] at hkq
      obtain ⟨k, hk⟩ : ∃ k : Nat, (k : Int) + 1 = el b.2.2.1 81 e.2 := ⟨(el b.2.2.1 81 e.2 - 1).toNat, by omega⟩
      obtain ⟨π', σ', τp', t, q1, q2, q3⟩ := nm_def (rA := rA) (rF := rF) (e := e) (k := k) (K := 7) (Kd := 4) (d := d) (tail := [4]) hN hc h hB hop ⟨hd.1, by omega⟩ ⟨hK.2.1, hK.1, by decide, by decide⟩ k1 k2 h1 (by decide) (hde d3) ⟨hk.symm, by omega⟩ (k6 d1 d2 (hde d3)) t4 (by simp) hA (fun τa w1 w2 w3 => by
        obtain ⟨y1, y2⟩ := mkT (nuw (List.replicate k 4 ++ [4])) τa w2
        refine ⟨_, ?_, y2⟩
        rw [rtop, if_pos (by omega), r_readApp_70, grd_t (by exact ⟨by omega, by omega⟩), if_pos d2, grd_t (by exact ⟨by omega, by omega⟩), if_neg (by omega), grd_t (by exact ⟨w.1.1, w.1.2⟩), grd_t (by exact ⟨by omega, by omega⟩), if_pos (by omega), r_node' ⟨by omega, n16⟩, Option.bind_some]
        simp only
        rw [grd_t (by exact ⟨by omega, n16⟩)]
        simp only [bnd]
        have ek : el τa 81 e.2 = ((k + 1 : Nat) : Int) := by rw [w3 81 _ (Or.inl rfl)]; push_cast; omega
        rw [w1, Option.bind_some, grd_t (by exact ⟨hd.1, by omega⟩), ek, all_ok (k + 1) (by omega), Option.bind_some, List.replicate_succ', y1, Option.bind_some])
      have cls : ∀ r, Rd_app_48 N rA rF π' σ' (nn π) = r → Rd_app N rA rF π σ = r := fun r hr => by
        rw [Rd_app, grd_t tk.kd.1, if_pos h1, k3, Option.bind_some]
        simp only
        rw [hkq, grd_t (by decide), if_neg (by decide), if_pos rfl, Rd_app_43, q1, Option.bind_some]
        exact hr
      rcases q3 with q | ⟨τi, l', kn', w1, w2, w4, w5⟩
      · exact wft π' σ' τp' t q2 q cls
      · have wl := wst_wlt w4
        obtain ⟨a1, ⟨g1, g2, g3, g4, g5⟩, a3, a4, a5, a6, a7, a8, a9, ⟨a10, a10'⟩, a11, a12, a13, a14, a15, b1, b2, b3, b4, b5, b6, b7, b8⟩ := id w4
        have oe := (cx.2.2.2.2.2.2.2.2.1 e (hde d3)).1.ext a4.1
        have hap : APQ N b dl Xo (fl τ 16 0) (nn π) op (lf τ) L Kn π π' σ' τi l' 1 1 9 120 := apq_use hN hP g1 g2 ⟨by omega, by omega⟩ (by rw [g3]; omega) ⟨g5, oe⟩ a14 (hde d3) (by omega) a10 a10' (by omega) ⟨by omega, by omega⟩
        obtain ⟨π2, σ2, τ2, o, t2, u1, u2, u3⟩ := app_last (rF := rF) hN hc h hB ⟨hd.1, by omega⟩ hop wl (fun x hx => Or.inl hx) w1 w2 hA g1.1 (Or.inl a10') hap (by omega) (by omega) ⟨by omega, by omega⟩ (by omega) (by omega)
        exact ⟨π2, σ2, τ2, o, t + t2, cls _ u1, q2.tr u2, u3⟩
    -- other names
    have ki : i32 kq ∧ kq ≠ 2 ∧ kq ≠ 4 := by
      by_cases c1 : 0 ≤ p
      · rw [if_pos c1] at hkq; rw [hkq]; decide
      · rw [if_neg c1, if_neg (by omega)] at hkq
        by_cases c3 : e = (-1, -1)
        · rw [if_pos c3] at hkq; rw [hkq]; decide
        · rw [if_neg c3] at hkq
          by_cases c4 : el b.2.2.1 81 e.2 = 0
          · rw [if_pos c4] at hkq; rw [hkq]; decide
          · exact absurd ⟨by omega, by omega, c3, c4⟩ cD
    refine plain σ1 k1 k2 ?_ (fun π' σ' o hr => ?_)
    · rw [rtop]
      by_cases c : p = -1
      · rw [if_pos c, r_readApp_70, grd_t (by exact ⟨by omega, by omega⟩), if_pos (by omega), grd_t (by exact ⟨by omega, by omega⟩)]
        by_cases c2 : e = (-1, -1)
        · rw [if_pos (by rw [c2]; decide)]
        · have w := hdx c2
          have z : el τ 81 e.2 = 0 := by
            by_cases q : el τ 81 e.2 = 0
            · exact q
            · exact absurd ⟨by omega, by omega, c2, by omega⟩ cD
          rw [if_neg (by omega), grd_t (by exact ⟨w.1.1, w.1.2⟩), grd_t (by exact ⟨by omega, by omega⟩), if_neg (by omega)]
      · rw [if_neg c]
    · rw [Rd_app, grd_t tk.kd.1, if_pos h1, k3, Option.bind_some]
      simp only
      rw [grd_t ki.1, if_neg ki.2.1, if_neg ki.2.2, hr, Option.bind_some]
      rfl
  · refine plain σ (ERf.rf σ) (fun _ => rfl) ?_ (fun π' σ' o hr => ?_)
    · have t3 : ¬ fl τ 3 0 = 2 := fun e => h1 (tk.kd.2.2.1.2 e)
      show r_readApp N τ d = _
      rw [r_readApp, grd_t (by exact ⟨hd.1, by omega⟩), hK.2.2, grd_t (by decide), if_neg (by decide), grd_t (by exact ⟨by omega, by omega⟩), if_neg t3, r_readApp_44, r_readApp_45, grd_t (by exact ⟨by omega, by omega⟩), if_neg t3, r_readApp_69, r_readApp_70, grd_t (by decide), if_pos (by decide), grd_t (by decide), if_pos (by decide)]
    · rw [Rd_app, grd_t tk.kd.1, if_neg h1, hr, Option.bind_some]
      rfl
end AQ9
