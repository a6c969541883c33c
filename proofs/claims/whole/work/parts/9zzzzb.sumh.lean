/-! sums: the end of a sum; sums, both -/
section SX
variable {N : Nat} {b : Bse} {dl : List (Int × Int)} {rA rF : Sh → St → Option (Sh × St × Int)}
set_option maxHeartbeats 4000000 in
theorem sum_end {Xo : Int → Prop} {c op d r t1 tm acc : Int} {L0 : List Stq} {Kn0 kn : List Int} {π0 π : Sh} {σ0 τ0 σ τ : St} {seg : List Stq} {k T : Nat} (hN : 30000001 ≤ N) (hc : CTX b dl) (h0 : XEs b Xo π0 σ0 τ0 L0 Kn0) (hB0 : PRE τ0 L0 Kn0) (hop : fl τ0 13 0 = op) (hcs : 0 ≤ c) (hd : 0 ≤ d ∧ d < 500) (h : XEs b Xo π σ τ (L0 ++ seg) (Kn0 ++ kn)) (h13 : fl τ 13 0 = op) (he : EFt (bX b) (bY b) π0 σ0 π σ) (hr : RDr (fl τ0 16 0) d τ0 τ) (hs : SMC N b τ (fl τ0 16 0) d r t1 tm acc (Kn0 ++ kn) L0.length seg (smW c op τ0 τ) (smZ c op τ0 τ) k) (hU : ∀ y ∈ seg, y.1 = 99 → Uoe dl b y) (b0 : lf τ + 1 ≤ lf τ0) (b1 : (k : Int) + 9 + 12 * lf τ ≤ 12 * lf τ0) (b2 : fl τ 16 0 + 3 * lf τ ≤ fl τ0 16 0 + 3 * lf τ0) (b3 : (seg.length : Int) + 2 * lf τ + 1 ≤ 2 * lf τ0) (b4 : (kn.length : Int) + lf τ ≤ lf τ0) (b5 : (T : Int) + 36 + 20 * lf τ ≤ 20 * lf τ0) (b6 : (nn π : Int) + 7 ≤ nn π0 + 12 * (lf τ0 - lf τ)) (b7 : (sw π : Int) + 4 * cpc π0 σ0 (bX b) + 4 * cpc π0 σ0 (bY b) + 80 ≤ sw π0 + 4 * cpc π σ (bX b) + 4 * cpc π σ (bY b) + 150 * (lf τ0 - lf τ)) : ∃ τ', r_readSum_116 N τ d 0 = some τ' ∧ EXo N b dl Xo L0 Kn0 d (c + 2) 2 π0 σ0 τ0 π σ τ' acc (T + 1) := by
  obtain ⟨s1, s2, s3, s4, s5, s6, s7⟩ := hs
  have l0 := h0.2.1.lf
  have lh := h.2.1.lf
  have opb := h0.2.2.2.1
  have v16 := h0.2.2.2.2.2.2.2.2.1
  have bv : 0 ≤ bV b := by obtain ⟨-, -, -, -, -, -, -, -, -, q⟩ := hc; exact q
  unfold PRE at hB0
  obtain ⟨τ', h'⟩ : ∃ τ', τ' = sf (sf τ 46 0 r) 41 0 (fl τ 41 0 - 1) := ⟨_, rfl⟩
  have f' : ∀ g : Nat, g ≠ 46 → g ≠ 41 → fl τ' g 0 = fl τ g 0 := fun g x y => by rw [h', fl_sfn _ _ _ _ y, fl_sfn _ _ _ _ x]
  have e' : ∀ a i, el τ' a i = el τ a i := fun a i => by rw [h', el_sf, el_sf]
  have rd' : RDr (fl τ0 16 0) d τ τ' := by rw [h']; exact ((RDr.rf _ _ τ).sf 46 r (by omega)).sf 41 _ (by omega)
  have lf' : lf τ' = lf τ := by unfold lf; rw [f' 1 (by decide) (by decide), f' 4 (by decide) (by decide)]
  have f16 := f' 16 (by decide) (by decide)
  refine ⟨τ', ?_, he, hr.tr rd' (Int.le_refl _) (Int.le_refl _), Or.inr ⟨seg, kn, r, smW c op τ0 τ, smZ c op τ0 τ, k + 2, h.rt hc rd' (by omega) hd.1 (by omega) (fun g hg => f' g (by omega) (by omega)), ⟨?_, ?_, ?_⟩, by omega, ?_, ?_, hU, ?_, ?_, ?_⟩⟩
  · rw [r_readSum_116, grd_t (by decide), if_pos rfl, grd_t (by exact ⟨hd.1, by omega⟩), s7.1, r_finish', Option.bind_some, h']
  · rw [h', fl_sfs, s7.2.1]; omega
  · rw [h', fl_sfn _ _ _ _ (by decide), fl_sfs]
  · rw [f' 13 (by decide) (by decide), hop]; exact h13
  · rw [e', s2.1]; decide
  · intro x y hx
    have hl := HLv_b hx
    have e : ∀ a i, ¬ (a = 85 ∧ i = r) → el (se τ' 85 r y) a i = el τ a i := fun a i hq => by rw [el_se, if_neg hq, e']
    have t := s1 x (se τ' 85 r y) (Kn0 ++ kn) (fl τ' 16 0) [] [acc] (smW c op τ0 τ) (smZ c op τ0 τ) (smW c op τ0 τ) (smZ c op τ0 τ) 1 hx (by omega) (List.prefix_refl _) (fun a i _ _ _ _ z5 _ => e a i (by omega)) (by
      rw [e 85 tm (by omega), s3]
      exact terms_nil hN (by unfold smW; omega) (Nat.le_refl _)) (Int.le_refl _) (Int.le_refl _) (Int.le_refl _) (Int.le_refl _)
    rw [List.append_nil] at t
    exact mk_sum (k1 := k + 1) hN ⟨⟨by omega, by omega⟩, by omega, by omega⟩ (by rw [e 94 r (by omega)]; exact s2.1) (by rw [e 87 r (by omega)]; exact s2.2.1) t (by unfold smW; omega) (Nat.le_refl _)
  · rw [EBg, lf', hop, f16]
    unfold smW smZ
    refine ⟨⟨by omega, by omega⟩, ⟨by omega, by omega⟩, by push_cast; omega, by push_cast; omega, by omega, by omega⟩
  · rw [lf']; exact ⟨by omega, by omega⟩
  · rw [lf']; exact ⟨by omega, by omega⟩
theorem sum_go {Xo : Int → Prop} {c op d : Int} {L0 : List Stq} {Kn0 : List Int} {π0 : Sh} {σ0 τ0 : St} (hN : 30000001 ≤ N) (hc : CTX b dl) (h0 : XEs b Xo π0 σ0 τ0 L0 Kn0) (hB0 : PRE τ0 L0 Kn0) (hop : fl τ0 13 0 = op) (hcs : 0 ≤ c) (hd : 0 ≤ d ∧ d < 500 ∧ d + 1 ≤ 10 * op + 5) (hsub : ARH N b dl 4 c 1 5 (Rd_app N rA rF) op) : ∀ (q : Nat) (π : Sh) (σ τ : St) (r s t' t1 tm acc place sg i : Int) (seg : List Stq) (kn : List Int) (k T n : Nat), SMA N b dl Xo c op d r s t' t1 tm acc place sg L0 Kn0 π0 σ0 τ0 π σ τ seg kn k T → lf τ ≤ q → lf τ < n → (0 ≤ i ∧ 2 * i + lf τ ≤ 2001) → ∃ π2 σ2 o π5 σ5 π6 σ6 acc' π' σ' o' τ' t, Rd_app N rA rF π σ = some (π2, σ2, o) ∧ Sp_give N π2 σ2 s o = some (π5, σ5, s) ∧ ob π2 s 10 ∧ Df_add N π5 σ5 (fl σ5 144 44) s = some (π6, σ6, acc') ∧ ob π5 (fl σ5 144 44) 1 ∧ Rd_sum_7 N rA rF n π6 σ6 acc' (i + 1) = some (π', σ', o') ∧ RLp N t τ τ' ∧ EXo N b dl Xo L0 Kn0 d (c + 2) 2 π0 σ0 τ0 π' σ' τ' o' (T + t)
  | 0, π, σ, τ, r, s, t', t1, tm, acc, place, sg, i, seg, kn, k, T, n, h, hq, hn, hi => by have := h.1.2.1.lf; omega
  | q + 1, π, σ, τ, r, s, t', t1, tm, acc, place, sg, i, seg, kn, k, T, n, h, hq, hn, hi => by
    obtain ⟨a1, a2, a3, a4, a5, a6, a7, a8, a9, a10, a11, a12, a13, a14, b1, b2, b3, b4, b5, b6, b7⟩ := id h
    have l1 := a1.2.1.lf
    have l0 := h0.2.1.lf
    obtain ⟨π2, σ2, τ2, o, t, q1, q2, q3, q4, q5⟩ := hsub (XR Xo σ s) π σ τ (L0 ++ seg) (Kn0 ++ kn) (d + 1) a1 a7 ⟨by omega, a6.1, a6.2.1⟩ ⟨by omega, by omega⟩ a6.2.2 (by
      unfold PRE at hB0 ⊢
      rw [List.length_append, List.length_append]
      push_cast
      exact ⟨by omega, by omega, by omega⟩)
    rcases q5 with f | f
    · obtain ⟨π5, σ5, π6, σ6, acc', c1, c2, c3, c4, c5, c6⟩ := sum_fl (o := o) (i := i + 1) (n := n) (rA := rA) (rF := rF) hc h0 hB0 hop h (by omega) ⟨by omega, by omega⟩ q3 q4 f
      exact ⟨π2, σ2, o, π5, σ5, π6, σ6, acc', π6, σ6, acc', τ2, t, q1, c1, c2, c3, c4, c5, q2, c6⟩
    · obtain ⟨π5, σ5, π6, σ6, acc', τa, seg', kn', k', c1, c2, c3, c4, c5, c6, c7, c8, c9, c10, c11, c12, c13, c14, c15, c16, c17, c18, c19, c20, c21, c22, c23⟩ := sum_ok hN hc h0 hB0 hop hcs ⟨hd.1, hd.2.1⟩ h q3 q4 f
      have la := c11.2.1.lf
      obtain ⟨n', rfl⟩ : ∃ n', n = n' + 1 := ⟨n - 1, by omega⟩
      by_cases e : isOpB (fl σ2 185 1)
      · rw [if_pos e] at c9
        have e6 : isOpB (fl σ6 185 1) := by rw [c5]; exact e
        obtain ⟨π7, σ7, σ8, π9, σ9, τ', d1, d2, d3, d4, d5, d6, d7, d8⟩ := sum_next (T := T + t + 1) hN hc h0 hB0 hop hcs ⟨hd.1, hd.2.1⟩ c11 c12 c13 c14 c15 c16 e6 (by omega) (by omega) (by omega) (by omega) (by push_cast at c21 ⊢; omega) (by omega) (by omega)
        rw [d6] at c9
        obtain ⟨π10, σ10, o10, π11, σ11, π12, σ12, acc2, π', σ', o', τ'', t', e1, e2, e3, e4, e5, e6', e7, e8⟩ := sum_go hN hc h0 hB0 hop hcs hd hsub q π9 σ9 τ' r (nn π6) (fl τa 16 0) t1 t' acc' (fl σ6 186 1) (fl σ6 185 1) (i + 1) seg' kn' k' (T + t + 1) n' d8 (by omega) (by omega) ⟨by omega, by omega⟩
        have n56 := c11.1.1
        refine ⟨π2, σ2, o, π5, σ5, π6, σ6, acc', π', σ', o', τ'', t + (1 + t'), q1, c1, c2, c3, c4, ?_, q2.tr ((RLp.one c6.1 ⟨hd.1, by omega⟩ c6.2.1 ⟨c6.2.2, by omega, by omega⟩ c9).tr e7), ?_⟩
        · rw [sm_go ⟨by omega, by omega⟩ c11.2.2.1.1 e6 (by omega) d1 d2 d3 d4 d5 e1 e2 e3 e4 e5]
          exact e6'
        · have et : T + (t + (1 + t')) = T + t + 1 + t' := by omega
          rw [et]
          exact e8
      · rw [if_neg e] at c9
        obtain ⟨τ', d1, d2⟩ := sum_end (T := T + t) hN hc h0 hB0 hop hcs ⟨hd.1, hd.2.1⟩ c11 c12 c13 c14 c15 c16 (by omega) c17 c18 c19 c20 c21 c22 c23
        rw [d1] at c9
        refine ⟨π2, σ2, o, π5, σ5, π6, σ6, acc', π6, σ6, acc', τ', t + 1, q1, c1, c2, c3, c4, sm_stop ⟨by omega, by omega⟩ (by rw [c11.2.2.1.1]; decide) (fun _ => by rw [c5]; exact ⟨c7.kd.1, e⟩), q2.tr (RLp.one c6.1 ⟨hd.1, by omega⟩ c6.2.1 ⟨c6.2.2, by omega, by omega⟩ c9), d2⟩
set_option maxHeartbeats 4000000 in
/-- a sum -/
theorem sum_all {op : Int} (hN : 30000001 ≤ N) (hc : CTX b dl) (hsub : ARH N b dl 4 6 1 5 (Rd_app N rA rF) op) : ARH N b dl 3 8 2 4 (Rd_sum N rA rF) op := by
  intro Xo π0 σ0 τ0 L0 Kn0 d h0 hop hF hd hn hB0
  have l0 := h0.2.1.lf
  have f0 := h0.2.2.1
  have opb := h0.2.2.2.1
  have v16 := h0.2.2.2.2.2.2.2.2.1
  have bv : 0 ≤ bV b := by obtain ⟨-, -, -, -, -, -, -, -, -, q⟩ := hc; exact q
  have hP : bP b ≤ 4 := by obtain ⟨-, -, -, -, ⟨q, -⟩, -⟩ := hc; exact q.2
  have dd : d < 500 := by omega
  obtain ⟨N', hN'⟩ : ∃ N', N = N' + 1 := ⟨N - 1, by omega⟩
  -- the first term
  obtain ⟨τ1, hτ1⟩ : ∃ τ1, τ1 = nwF (se τ0 72 d 1) 4 (-1) 0 := ⟨_, rfl⟩
  have r1 : RDr (fl τ0 16 0) d τ0 τ1 := by rw [hτ1]; exact nwF_rd ((RDr.rf _ _ τ0).sp 72 d 1 (by omega) (Int.le_refl _)) _ _ _ (by rw [fl_se, hF.1]; omega)
  have f1 : ∀ g : Nat, g ≠ 41 → fl τ1 g 0 = fl τ0 g 0 := fun g hg => by rw [hτ1, nwF_fl _ _ _ _ _ _ hg, fl_se]
  have g41 : fl τ1 41 0 = d + 2 := by rw [hτ1, nwF_41, fl_se, hF.1]; omega
  have nv := nwF_v (se τ0 72 d 1) 4 (-1) 0
  rw [fl_se, hF.1, ← hτ1] at nv
  have ed : el τ1 74 d = 3 ∧ el τ1 72 d = 1 ∧ el τ1 73 d = -1 := by
    rw [hτ1, nwF_el _ _ _ _ _ _ (by rw [fl_se, hF.1]; omega), nwF_el _ _ _ _ _ _ (by rw [fl_se, hF.1]; omega), nwF_el _ _ _ _ _ _ (by rw [fl_se, hF.1]; omega), el_sen _ _ _ _ (by decide), el_ses, el_sen _ _ _ _ (by decide)]
    exact ⟨hF.2.1, rfl, hn⟩
  have turn1 : rdK N 3 τ0 d = some τ1 := by
    show r_readSum N τ0 d = _
    rw [r_readSum, grd_t (by exact ⟨hd.1, by omega⟩), hF.2.2, grd_t (by decide), if_pos rfl]
    simp only [bnd]
    rw [r_begin' (by rw [fl_se, hF.1]; exact ⟨by omega, by omega⟩), Option.bind_some, hτ1]
  have rl1 : RLp N 1 τ0 τ1 := RLp.one hF.1 ⟨hd.1, by omega⟩ f0.2 ⟨hF.2.1, by omega, by omega⟩ turn1
  have x1 : XEs b Xo π0 σ0 τ1 L0 Kn0 := h0.rt hc r1 (by omega) hd.1 (by rw [f1 16 (by decide)]; exact v16) (fun g hg => f1 g (by omega))
  have lf1 : lf τ1 = lf τ0 := by unfold lf; rw [f1 1 (by decide), f1 4 (by decide)]
  have f13 := f1 13 (by decide)
  have f16 := f1 16 (by decide)
  obtain ⟨π2, σ2, τ2, o, t, q1, q2, q3, q4, q5⟩ := hsub Xo π0 σ0 τ1 L0 Kn0 (d + 1) x1 (by omega) ⟨by omega, nv.1, nv.2.2.1⟩ ⟨by omega, by omega⟩ nv.2.1 (by unfold PRE at hB0 ⊢; rw [lf1, f16]; exact hB0)
  have rd2 : RDr (fl τ0 16 0) d τ0 τ2 := r1.tr q4 (by omega) (by omega)
  have cls : Rd_sum N rA rF π0 σ0 = Rd_sum_7 N rA rF (N' + 1) π2 σ2 o 0 := by
    rw [Rd_sum, q1, Option.bind_some, ← hN']; rfl
  rcases q5 with f | f
  · have fz := f.1.f
    refine ⟨π2, σ2, τ2, o, 1 + t, by rw [cls]; exact sm_stop ⟨by omega, by omega⟩ fz.2 (fun e => absurd e fz.1), rl1.tr q2, q3, rd2, Or.inl (f.up (by omega) f13 (by omega) (by push_cast; omega))⟩
  · have fk := f
    obtain ⟨seg, kn2, n, w, z, k, g1, ⟨g2, g3, g4⟩, g5, g6, g7, g8, ⟨⟨m1, m2⟩, ⟨m3, m4⟩, m5, m6, m7, m8⟩, ⟨g9, g10⟩, g11⟩ := f
    have tk2 := g1.2.1
    have fz2 := g1.2.2.1
    have fr : ∀ a : Int, 71 ≤ a → a ≤ 74 → el τ2 a d = el τ1 a d := fun a z1 z2 => q4.2.2.2 a d z1 z2 (by omega)
    rw [lf1] at m2 m4 m5 m6 m7 m8 g9 g10 g11
    rw [f13] at m2 m4 g4
    rw [f16] at m8 g5 g7
    have base : r_readSum N τ2 d = if isOpB (fl σ2 185 1) then Option.bind (r_node N τ2 3 (fl τ2 4 0)) (fun r13 => bnd (se r13.1 73 d r13.2) (fun σ15 => Option.bind (r_node N σ15 4 (-1)) (fun r17 => Option.bind (r_append N r17.1 r17.2 (fl r17.1 46 0)) (fun r19 => Option.bind (r_append N r19 (el r19 73 d) r17.2) (fun r21 => r_readSum_116 N r21 d 1))))) else some (sf (sf τ2 46 0 n) 41 0 d) := by
      rw [r_readSum, grd_t (by exact ⟨hd.1, by omega⟩), fr 72 (by omega) (by omega), ed.2.1, grd_t (by decide), if_neg (by decide), tk2.op.1, Option.bind_some]
      simp only
      rw [fr 73 (by omega) (by omega), ed.2.2, grd_t (by decide), if_pos rfl]
      by_cases e : isOpB (fl σ2 185 1)
      · rw [if_pos e, if_pos e, grd_t (by decide), if_neg (by decide)]
      · rw [if_neg e, if_neg e, grd_t (by decide), if_pos rfl, r_finish', Option.bind_some, g3, g2]
        congr 2
        omega
    by_cases e : isOpB (fl σ2 185 1)
    · rw [if_pos e] at base
      have l2 := tk2.lf
      unfold PRE at hB0
      obtain ⟨r, hr⟩ : ∃ r, r = fl τ2 16 0 := ⟨_, rfl⟩
      have r0 : 0 ≤ r ∧ r + 1 < 32768 := by omega
      obtain ⟨τ3, hτ3⟩ : ∃ τ3, τ3 = se (nwN τ2 3 (fl τ2 4 0)) 73 d r := ⟨_, rfl⟩
      have t316 : fl τ3 16 0 = r + 1 := by rw [hτ3, fl_se, hr]; exact nwN_16 _ _ _
      have t3f : ∀ g : Nat, g ≠ 16 → fl τ3 g 0 = fl τ2 g 0 := fun g hg => by rw [hτ3, fl_se]; exact nwN_fl _ _ _ _ _ hg
      obtain ⟨τ4, hτ4⟩ : ∃ τ4, τ4 = nwN τ3 4 (-1) := ⟨_, rfl⟩
      have t416 : fl τ4 16 0 = r + 2 := by rw [hτ4, nwN_16, t316]; omega
      have t4f : ∀ g : Nat, g ≠ 16 → fl τ4 g 0 = fl τ2 g 0 := fun g hg => by rw [hτ4, nwN_fl _ _ _ _ _ hg]; exact t3f g hg
      have nv3 := nwN_v τ2 3 (fl τ2 4 0)
      rw [← hr] at nv3
      have nv4 := nwN_v τ3 4 (-1)
      rw [t316, ← hτ4] at nv4
      have e4 : ∀ a i : Int, i ≠ r → i ≠ r + 1 → ¬ (a = 73 ∧ i = d) → el τ4 a i = el τ2 a i := fun a i z1 z2 z3 => by
        rw [hτ4, nwN_el _ _ _ _ _ (by omega), hτ3, el_se, if_neg z3, nwN_el _ _ _ _ _ (by omega)]
      have e4r : ∀ a : Int, 84 ≤ a → a ≤ 94 → el τ4 a r = el (nwN τ2 3 (fl τ2 4 0)) a r := fun a z1 z2 => by
        rw [hτ4, nwN_el _ _ _ _ _ (by omega), hτ3, el_sen _ _ _ _ (by omega)]
      have e473 : el τ4 73 d = r := by rw [hτ4, nwN_el _ _ _ _ _ (by omega), hτ3, el_ses]
      obtain ⟨τ5, hτ5⟩ : ∃ τ5, τ5 = apN τ4 (r + 1) n := ⟨_, rfl⟩
      have e5 : ∀ a i : Int, ¬ (a = 85 ∧ i = n) → ¬ ((a = 86 ∨ a = 87) ∧ i = r + 1) → el τ5 a i = el τ4 a i := fun a i z1 z2 => by
        rw [hτ5]
        unfold apN
        rw [if_pos nv4.2.2.2.2.2.2.2.1, el_se, if_neg z1, el_se, if_neg (by omega), el_se, if_neg (by omega)]
      have e587 : el τ5 87 (r + 1) = n := by
        rw [hτ5]
        unfold apN
        rw [if_pos nv4.2.2.2.2.2.2.2.1, el_sen _ _ _ _ (by decide), el_sen _ _ _ _ (by decide), el_ses]
      have r87 : el τ5 87 r = -1 := by rw [e5 87 r (by omega) (by omega), e4r 87 (by omega) (by omega)]; exact nv3.2.2.2.2.2.2.2.1
      obtain ⟨τ6, hτ6⟩ : ∃ τ6, τ6 = apN τ5 r (r + 1) := ⟨_, rfl⟩
      have e6 : ∀ a i : Int, ¬ (a = 85 ∧ i = r + 1) → ¬ ((a = 86 ∨ a = 87) ∧ i = r) → el τ6 a i = el τ5 a i := fun a i z1 z2 => by
        rw [hτ6]
        unfold apN
        rw [if_pos r87, el_se, if_neg z1, el_se, if_neg (by omega), el_se, if_neg (by omega)]
      have e6r : el τ6 87 r = r + 1 ∧ el τ6 86 r = r + 1 ∧ el τ6 85 (r + 1) = -1 := by
        rw [hτ6]
        unfold apN
        rw [if_pos r87]
        exact ⟨by rw [el_sen _ _ _ _ (by decide), el_sen _ _ _ _ (by decide), el_ses], by rw [el_sen _ _ _ _ (by decide), el_ses], by rw [el_ses]⟩
      have t6f : ∀ g : Nat, g ≠ 16 → fl τ6 g 0 = fl τ2 g 0 := fun g hg => by rw [hτ6, apN_fl, hτ5, apN_fl]; exact t4f g hg
      have t616 : fl τ6 16 0 = r + 2 := by rw [hτ6, apN_fl, hτ5, apN_fl]; exact t416
      have t473 : el τ5 73 d = r := by rw [e5 73 d (by omega) (by omega)]; exact e473
      have turn2 : rdK N 3 τ2 d = r_readSum_116 N τ6 d 1 := by
        show r_readSum N τ2 d = _
        rw [base, r_node' ⟨by omega, by omega⟩, Option.bind_some]
        simp only [bnd]
        rw [← hr, ← hτ3, r_node' ⟨by omega, by omega⟩, Option.bind_some]
        simp only
        rw [t316, ← hτ4, t4f 46 (by decide), g3, r_append' ⟨by omega, by omega⟩ ⟨by omega, by omega⟩ (Or.inl nv4.2.2.2.2.2.2.2.1) (by rw [nv4.2.2.2.2.2.2.2.1]; decide), Option.bind_some, ← hτ5, t473, r_append' ⟨by omega, by omega⟩ ⟨by omega, by omega⟩ (Or.inl r87) (by rw [r87]; decide), Option.bind_some, hτ6]
      have rd6 : RDr (fl τ0 16 0) d τ2 τ6 := by
        rw [hτ6]
        refine apN_rd ?_ ⟨by omega, by omega, Or.inl r87⟩
        rw [hτ5]
        refine apN_rd ?_ ⟨by omega, by omega, Or.inl nv4.2.2.2.2.2.2.2.1⟩
        rw [hτ4]
        refine nwN_rd ?_ _ _ (by omega)
        rw [hτ3]
        exact (nwN_rd (RDr.rf _ _ _) 3 _ (by omega)).sp 73 d r (by omega) (Int.le_refl _)
      have lf6 : lf τ6 = lf τ2 := by unfold lf; rw [t6f 1 (by decide), t6f 4 (by decide)]
      have x6 : XEs b Xo π2 σ2 τ6 (L0 ++ seg) (Kn0 ++ kn2) := g1.rt hc rd6 (by omega) hd.1 (by omega) (fun g hg => t6f g (by omega))
      have eqx : EXq N b τ6 (fl τ0 16 0) r (Kn0 ++ kn2) L0.length seg n o w z k := by
        rw [hr]
        exact g7.cg (fun a i z1 z2 z3 z4 z5 => by rw [e6 a i (by omega) (by omega), e5 a i z5 (by omega), e4 a i (by omega) (by omega) (by omega)]) (List.prefix_refl _) ⟨Int.le_refl _, Int.le_refl _⟩ ⟨Int.le_refl _, Int.le_refl _, Nat.le_refl _⟩
      have oc := OCt.first (hi := r + 2) (r := r) (t := r + 1) (lo := fl τ0 16 0) hN hP ⟨by omega, by omega, by omega, by omega, by omega⟩ (by rw [e6 92 _ (by omega) (by omega), e5 92 _ (by omega) (by omega)]; exact nv4.2.2.1) (by rw [e6 87 _ (by omega) (by omega)]; exact e587) eqx ⟨Int.le_refl _, by omega, Or.inl (Int.le_refl _), Or.inl (by omega)⟩ m1
      have ed6 : ∀ a : Int, a = 72 ∨ a = 74 → el τ6 a d = el τ1 a d := fun a ha => by
        rw [e6 a d (by omega) (by omega), e5 a d (by omega) (by omega), hτ4, nwN_el _ _ _ _ _ (by omega), hτ3, el_sen _ _ _ _ (by omega), nwN_el _ _ _ _ _ (by omega), fr a (by omega) (by omega)]
      have smc : SMC N b τ6 (fl τ0 16 0) d r (r + 1) (r + 1) o (Kn0 ++ kn2) L0.length seg (smW 6 op τ0 τ6) (smZ 6 op τ0 τ6) (k + 1) := by
        refine ⟨by rw [t616]; exact oc.cg (fun _ _ _ _ _ _ _ _ => rfl) (List.prefix_refl _) (by unfold smW smZ; rw [lf6]; omega), ⟨?_, e6r.1, e6r.2.1⟩, e6r.2.2, by omega, by omega, by omega, ?_, ?_, ?_, ?_⟩
        · rw [e6 94 r (by omega) (by omega), e5 94 r (by omega) (by omega), e4r 94 (by omega) (by omega)]; exact nv3.1
        · rw [e6 73 d (by omega) (by omega)]; exact t473
        · rw [t6f 41 (by decide)]; exact g2
        · rw [ed6 74 (Or.inr rfl)]; exact ed.1
        · rw [ed6 72 (Or.inl rfl)]; exact ed.2.1
      have h13 : fl τ6 13 0 = op := by rw [t6f 13 (by decide), g4]; exact hop
      have q11a := g11.1
      have q11b := g11.2
      obtain ⟨π7, σ7, σ8, π9, σ9, τ', d1, d2, d3, d4, d5, d6, d7, d8⟩ := sum_next (T := 1 + t + 1) (c := 6) hN hc h0 (by unfold PRE; exact hB0) hop (by omega) ⟨hd.1, dd⟩ x6 h13 q3 (rd2.tr rd6 (Int.le_refl _) (Int.le_refl _)) smc g8 e (by rw [lf6]; push_cast; omega) (by rw [lf6]; omega) (by rw [lf6]; omega) (by rw [lf6]; omega) (by rw [lf6]; push_cast; omega) (by rw [lf6]; omega) (by rw [lf6]; omega)
      rw [d6] at turn2
      have n56 := g1.1.1
      obtain ⟨π10, σ10, o10, π11, σ11, π12, σ12, acc2, π', σ', o', τ'', t', e1, e2, e3, e4', e5', e6', e7, e8⟩ := sum_go (c := 6) hN hc h0 (by unfold PRE; exact hB0) hop (by omega) ⟨hd.1, dd, by omega⟩ hsub (lf τ').toNat π9 σ9 τ' r (nn π2) (fl τ6 16 0) (r + 1) (r + 1) o (fl σ2 186 1) (fl σ2 185 1) 0 seg kn2 (k + 1) (1 + t + 1) N' d8 (by omega) (by omega) ⟨Int.le_refl _, by omega⟩
      refine ⟨π', σ', τ'', o', 1 + t + 1 + t', ?_, ((rl1.tr q2).tr (RLp.one g2 ⟨hd.1, by omega⟩ fz2.2 ⟨by rw [fr 74 (by omega) (by omega)]; exact ed.1, by omega, by omega⟩ turn2)).tr e7, e8⟩
      rw [cls, sm_go ⟨by omega, by omega⟩ fz2.1 e (by omega) d1 d2 d3 d4 d5 e1 e2 e3 e4' e5']
      exact e6'
    · rw [if_neg e] at base
      have turn2 : rdK N 3 τ2 d = some (sf (sf τ2 46 0 n) 41 0 d) := base
      refine ⟨π2, σ2, _, o, 1 + t + 1, by rw [cls]; exact sm_stop ⟨by omega, by omega⟩ (by rw [fz2.1]; decide) (fun _ => ⟨tk2.kd.1, e⟩), (rl1.tr q2).tr (RLp.one g2 ⟨hd.1, by omega⟩ fz2.2 ⟨by rw [fr 74 (by omega) (by omega)]; exact ed.1, by omega, by omega⟩ turn2), q3, (rd2.sf 46 n (by omega)).sf 41 d (by omega), Or.inr (fk.up hc ⟨lf1, f13, f16⟩ (by omega) (by push_cast; omega) (((RDr.rf (bV b) 0 τ2).sf 46 n (by omega)).sf 41 d (by omega)) ⟨fl_sfs _ _ _ _, fun g hg => ?_⟩ (fun a i _ => rfl))⟩
      rw [fl_sfn _ _ _ _ hg]
      by_cases c : g = 46
      · rw [c, fl_sfs]; exact g3.symm
      · rw [fl_sfn _ _ _ _ c]
end SX
