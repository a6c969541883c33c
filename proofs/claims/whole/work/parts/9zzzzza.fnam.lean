/-! FUNs: by their names -/
section FY9
variable {N : Nat} {b : Bse} {Xo : Int → Prop} {dl : List (Int × Int)} {rA rF : Sh → St → Option (Sh × St × Int)}
set_option maxHeartbeats 2000000 in
theorem fu_end {fC fR K Kd us d n pc place op : Int} {L0 : List Stq} {Kn0 : List Int} {π0 π : Sh} {σ0 τ0 σ τ τ' : St} (hN : 30000001 ≤ N) (hc : CTX b dl) (h0 : XEs b Xo π0 σ0 τ0 L0 Kn0) (hB0 : PRE τ0 L0 Kn0) (hop : fl τ0 13 0 = op) (h : WST N b dl Xo fC fR K Kd us d n pc place op (lf τ0) L0 Kn0 π0 σ0 τ0 π σ τ 0 0 0 0 [] [] 1) (hK : 9 ≤ K ∧ K ≤ 10) (t2 : ∀ g : Nat, g ≠ 46 → g ≠ 41 → fl τ' g 0 = fl τ g 0) (t3 : fl τ' 41 0 = d ∧ fl τ' 46 0 = n) (t5 : ∀ a i : Int, 84 ≤ a → el τ' a i = el τ a i) (t6 : RDr (bV b) 0 τ τ') (hap : ∀ q, APs N (bD b) (bP b) (bV b) n (fl τ 16 0) 1 1 2 6 9 120 (Uoe dl b) [] 11 n (nn π0) (nn π) pc π σ τ (fun π σ p => Pc_apply N (Pc_applyC N q) π σ pc (bD b) p)) : FUk N b dl Xo L0 Kn0 d 1 3 4 6 1 0 (fun _ => -1) (rFn N b) π0 σ0 τ0 π σ τ' pc 1 := by
  have op20 := h0.2.2.2.1
  have l0 := h0.2.1.lf
  obtain ⟨a1, ⟨p1, p2, p3, p4, p5⟩, a3, a4, a5, a6, a7, a8, a9, ⟨a10, a10'⟩, a11, a12, a13, a14, a15, b1, b2, b3, b4, b5, b6, b7, b8⟩ := id h
  have l1 := a1.2.1.lf
  have v16 := h0.2.2.2.2.2.2.2.2.1
  have bv : 0 ≤ bV b := by obtain ⟨-, -, -, -, -, -, -, -, -, q⟩ := hc; exact q
  have hP : bP b ≤ 4 := by obtain ⟨-, -, -, -, ⟨q, -⟩, -⟩ := hc; exact q.2
  have h16 : fl τ 16 0 ≤ 32768 := by unfold PRE at hB0; omega
  have f16 := t2 16 (by decide) (by decide)
  have lf2 : lf τ' = lf τ := by unfold lf; rw [t2 1 (by decide) (by decide), t2 4 (by decide) (by decide)]
  rw [show egs [] = ([] : List Stq) from rfl] at a1 b4
  have x2 : XEs b Xo π σ τ' (L0 ++ []) (Kn0 ++ []) := (a1.rt hc t6 (Int.le_refl _) (Int.le_refl _) (by rw [f16]; exact a1.2.2.2.2.2.2.2.2.1) (fun g hg => t2 g (by omega) (by omega))).sub (fun x w => Or.inl w)
  have nd : ND n (fl τ 16 0) n := ⟨⟨by omega, by omega⟩, Int.le_refl _, a9.2⟩
  have z4 : ((([] : List Stq).length : Nat) : Int) = 0 := rfl
  have z5 : ((([] : List Int).length : Nat) : Int) = 0 := rfl
  rw [z4] at b4
  rw [z5] at b5
  have fq : FUq N b τ' n (fl τ' 16 0) (Kn0 ++ []) L0.length [] n [] 1 1 2 := by
    intro x y hx
    have hl := HLv_b hx
    have e : ∀ a i, 84 ≤ a → ¬ (a = 85 ∧ i = n) → el (se τ' 85 n y) a i = el τ a i := fun a i z hq => by rw [el_se, if_neg hq, t5 a i z]
    rw [f16]
    by_cases k9 : K = 9
    · exact tk_args_rev hN nd (by rw [e 94 n (by omega) (by omega), a10']; exact k9) (by omega) (by omega)
    · have h87 : el (se τ' 85 n y) 87 n = -1 := by rw [e 87 n (by omega) (by omega)]; exact a12.1
      exact tk_args (k1 := 1) hN nd ⟨by rw [e 94 n (by omega) (by omega), a10']; exact ⟨by omega, by omega⟩, by rw [e 94 n (by omega) (by omega), a10']; omega⟩ h87 (ak_nil hN (by omega) (Nat.le_refl _)) (by omega) (Nat.le_refl _)
  have nn0 := a9.1
  refine ⟨[], [], n, [], 1, 1, 2, 1, 1, 2, 6, 9, 120, x2, ⟨t3.1, t3.2, by rw [t2 13 (by decide) (by decide), hop]; exact a8⟩, ⟨by omega, by rw [f16]; exact a9.2⟩, by rw [t5 94 n (by omega), a10']; omega, by rw [← nn0]; exact fq, fun q hq => absurd hq (by simp), fun y hy => absurd hy (by simp), ⟨p1.1, by omega, by omega⟩, fun q hq => ?_, ?_, ?_, ⟨by omega, by omega, ?_⟩⟩
  · obtain ⟨q', rfl⟩ : ∃ q', q = q' + 1 := ⟨q - 1, by omega⟩
    rw [f16, ← nn0]
    have w := (hap q').at (PFx.rf _ _ _ _ _) (fun a i z _ _ _ _ => t5 a i (by omega))
    exact APs.only (rA := Pc_applyC N (q' + 1)) hN hP w p1.1 p4 ⟨by omega, by omega, Int.le_refl _⟩ ⟨Int.le_refl _, a9.2⟩ (by omega) ⟨by omega, by omega⟩
  · rw [lf2, hop]
    exact ⟨⟨by omega, by omega⟩, ⟨by omega, by omega⟩, ⟨by omega, by omega⟩, ⟨by omega, by omega⟩⟩
  · rw [lf2, f16, z4, z5]
    exact ⟨by push_cast; omega, by push_cast; omega, by omega, by omega, by push_cast; omega, by omega⟩
  · rw [lf2]
    exact ⟨by omega, by omega⟩
set_option maxHeartbeats 2000000 in
theorem fun_name {op d : Int} {π : Sh} {σ τ : St} {L : List Stq} {Kn : List Int} (hN : 30000001 ≤ N) (hc : CTX b dl) (h : XEs b Xo π σ τ L Kn) (hop : fl τ 13 0 = op) (hK : FRx τ d 7) (hd : 0 ≤ d ∧ d ≤ 10 * op + 12) (hB : PRE τ L Kn) (h1 : fl σ 185 1 = 1) : ∃ π' σ' τ' fc t, Rd_fun N rA rF π σ = some (π', σ', fc) ∧ RLp N t τ τ' ∧ EFt (bX b) (bY b) π σ π' σ' ∧ RDr (fl τ 16 0) d τ τ' ∧ (EXs b Xo L Kn 0 π σ τ π' σ' τ' t ∨ FUk N b dl Xo L Kn d 1 3 4 6 1 0 (fun _ => -1) (rFn N b) π σ τ π' σ' τ' fc t) := by
  obtain ⟨p, f, e, σ1, r1, r2, r3, p1, f1, e1, k1, k2, k3, k4, k5, k6⟩ := kind_all (N := N) (by omega) hc h h1
  have cx := h.cx hc
  have tk := h.2.1
  have l1 := tk.lf
  have t3 : fl τ 3 0 = 2 := tk.kd.2.2.1.1 h1
  have f0 := h.2.2.1
  have op20 := h.2.2.2.1
  have v16 := h.2.2.2.2.2.2.2.2.1
  have bv : 0 ≤ bV b := by obtain ⟨-, -, -, -, -, -, -, -, -, q⟩ := hc; exact q
  have hP : bP b ≤ 4 := by obtain ⟨-, -, -, -, ⟨q, -⟩, -⟩ := hc; exact q.2
  have n16 : fl τ 16 0 < 32768 := by unfold PRE at hB; omega
  have n44 : (44 : Int) < nn π := by have := h.1.1; omega
  have hde : e ≠ (-1, -1) → e ∈ dl := fun q => by rcases e1 with w | w; exact absurd w q; exact w
  have hdx : e ≠ (-1, -1) → (0 ≤ e.2 ∧ e.2 < 6000) ∧ el τ 81 e.2 = el b.2.2.1 81 e.2 ∧ (0 ≤ el τ 81 e.2 ∧ el τ 81 e.2 ≤ 4) := fun q => by
    have y1 := cx.2.2.2.2.2.2.2.2.1 e (hde q)
    have y2 := cx.2.2.2.2.2.2.2.2.2 e (hde q)
    exact ⟨y1.2.2.2, y2.2.1, by rw [← y2.1]; exact y1.2.2.1⟩
  have e2b : -1 ≤ e.2 ∧ e.2 < 6000 := by
    by_cases q : e = (-1, -1)
    · rw [q]; decide
    · have := hdx q; omega
  have p1' : -1 ≤ p ∧ p < 5 := by omega
  have f1' : -1 ≤ f ∧ f ≤ 20 := by omega
  have fz : fl σ1 182 1 = 0 := by rw [k2]; exact f0.1
  have z186 : ∀ g : Nat, g ≠ 186 ∨ True → fl (zO σ1 (nn π) dfl) g 1 = fl σ g 1 := fun g _ => by rw [fl_zO, if_neg (by omega)]; exact k2 g
  have rtop : rdK N 7 τ d = if p = -1 then r_readFun_89 N τ e.2 f else some (sf (sf τ 11 0 2) 12 0 (fl τ 4 0)) := by
    show r_readFun N τ d = _
    rw [r_readFun, grd_t (by exact ⟨hd.1, by omega⟩), hK.2.2, grd_t (by decide), if_neg (by decide), tk.sign (c := 40) (by unfold isSgB; omega), Option.bind_some]
    simp only
    rw [if_neg (show ¬ fl σ 185 1 = 40 by omega), grd_t (by decide), if_pos rfl, t3, grd_t (by decide), if_pos rfl, r1, Option.bind_some]
    simp only
    rw [grd_t (by exact ⟨by omega, by omega⟩)]
    by_cases c : p = -1
    · rw [if_pos c, if_pos c, r3, Option.bind_some]
      simp only
      rw [r_readFun_72, r1, Option.bind_some]
      simp only
      rw [grd_t (by exact ⟨by omega, by omega⟩), if_pos c, r2, Option.bind_some]
    · rw [if_neg c, if_neg c, r_readFun_72, r1, Option.bind_some]
      simp only
      rw [grd_t (by exact ⟨by omega, by omega⟩), if_neg c, r_readFun_89, grd_t (by decide), if_neg (by decide), if_pos (by decide), grd_t (by decide), if_pos rfl, r_readFun_114, r_fail0 f0.2, Option.bind_some]
  have fl2 : r_readFun_114 N τ = some (sf (sf τ 11 0 2) 12 0 (fl τ 4 0)) := by rw [r_readFun_114, r_fail0 f0.2, Option.bind_some]
  -- the reference's node, and what follows
  have done : ∀ (fC fR K us : Int), 0 ≤ fC → fC ≤ 22 → 9 ≤ K → K ≤ 10 → (rdK N 7 τ d = r_readFun_137 N τ fR K) → ∃ π1 σ2 σ3 τ', Pc_init N (nO π 6 11) (zO σ1 (nn π) dfl) (nn π) fC (fl σ 186 1) = some (π1, σ2) ∧ ob (nO π 6 11) (nn π) 6 ∧ ob π1 (nn π) 6 ∧ fl σ2 128 (nn π) = -1 ∧ Sc_advance N π1 (sf σ2 128 (nn π) us) = some σ3 ∧ (∀ (f : Nat) (i : Int), i < nn π → fl σ2 f i = fl σ1 f i) ∧ fl σ3 120 (nn π) = fC ∧ fl σ3 182 1 = 0 ∧ RLp N 1 τ τ' ∧ EFt (bX b) (bY b) π σ π1 σ3 ∧ RDr (fl τ 16 0) d τ τ' ∧ ((fC = 4 ∧ K = 9) ∨ (fC = 22 ∧ K = 10 ∧ (us, fR) ∈ dl ∧ el b.2.2.1 81 fR = 1) → FUk N b dl Xo L Kn d 1 3 4 6 1 0 (fun _ => -1) (rFn N b) π σ τ π1 σ3 τ' (nn π) 1) := fun fC fR K us g1 g2 g3 g4 g5 => by
    obtain ⟨π1, σ2, σ3, τa, c1, c2, c3, c4, c5, c6, c7, c8, c9, c10, c11⟩ := ws_start (fC := fC) (fR := fR) (K := K) (Kd := 7) (us := us) (d := d) (W := 0) hN hc h hB hop ⟨hd.1, by omega⟩ ⟨hK.2.1, hK.1⟩ k1 k2 h1 ⟨by omega, by omega⟩
    obtain ⟨τw, hτw⟩ : ∃ τw, τw = nwF (se (se τa 73 d (fl τ 16 0)) 72 d 1) 6 (fl τ 16 0) 0 := ⟨_, rfl⟩
    obtain ⟨t2, t3, t4, t5, t6, t7, t8⟩ : TWo d (fl τ 16 0) 0 τa τw := by
      rw [hτw]
      exact tw_mk c9 (fun f i => by rw [fl_se, fl_se]) (fun a i hq => by rw [el_se, if_neg (by omega), el_se, if_neg (by omega)]) ⟨by rw [el_ses], by rw [el_sen _ _ _ _ (by decide), el_ses]⟩
    have W := c11 τw t2 t3 t4 t5 t6 t7
    obtain ⟨τ', hτ'⟩ : ∃ τ', τ' = sf (sf τa 46 0 (fl τ 16 0)) 41 0 (fl τa 41 0 - 1) := ⟨_, rfl⟩
    have q41 : fl τ' 41 0 = d := by rw [hτ', fl_sfs, c9]; omega
    have q46 : fl τ' 46 0 = fl τ 16 0 := by rw [hτ', fl_sfn _ _ _ _ (by decide), fl_sfs]
    have qf : ∀ g : Nat, g ≠ 46 → g ≠ 41 → fl τ' g 0 = fl τw g 0 := fun g x y => by rw [hτ', fl_sfn _ _ _ _ y, fl_sfn _ _ _ _ x, t2 g y]
    have qe : ∀ a i : Int, el τ' a i = el τa a i := fun a i => by rw [hτ', el_sf, el_sf]
    have rdw : ∀ lo d' : Int, d' ≤ d → RDr lo d' τw τ' := fun lo d' hd' => ⟨fun g i z1 z2 z3 z4 z5 => by
        by_cases q : i = 0
        · rw [q]; exact qf g (by omega) z3
        · rw [hτ', fl_sf, if_neg (by omega), fl_sf, if_neg (by omega), t5 g i q], fun a j z1 z2 => by rw [qe, t4 a j (by omega) (by omega)], fun a j z1 z2 z3 => by rw [qe, t4 a j (by omega) (by omega)], fun a j z1 z2 z3 => by rw [qe, t4 a j (by omega) (by omega)]⟩
    have turn : rdK N 7 τ d = some τ' := by
      rw [g5, r_readFun_137, r_node' ⟨by omega, n16⟩, Option.bind_some]
      simp only
      rw [grd_t (by exact ⟨by omega, n16⟩)]
      simp only [bnd]
      rw [c8, Option.bind_some, r_finish', Option.bind_some, hτ']
    have z182 : fl σ3 182 1 = 0 := W.1.2.2.1.1
    refine ⟨π1, σ2, σ3, τ', c1, c2, c3, c4, c5, c6, W.2.1.1.2.1, z182, RLp.one hK.1 ⟨hd.1, by omega⟩ f0.2 ⟨hK.2.1, by omega, by omega⟩ turn, W.2.2.2.1, W.2.2.2.2.1.tr (rdw _ d (Int.le_refl _)) (Int.le_refl _) (Int.le_refl _), fun hk => ?_⟩
    have Wc := W
    obtain ⟨a1, ⟨p1, p2, p3, p4, p5⟩, a3, a4, a5, a6, a7, a8, a9, ⟨a10, a10'⟩, -⟩ := Wc
    have lw := a1.2.1.lf
    have h16 : fl τw 16 0 ≤ 32768 := by
      have w := W.2.2.2.2.2.2.2.2.2.2.2.2.2.2.2.2.2.1
      unfold PRE at hB
      omega
    refine fu_end hN hc h hB hop W ⟨g3, g4⟩ qf ⟨q41, q46⟩ (fun a i z => by rw [qe, t4 a i (by omega) (by omega)]) (rdw _ 0 hd.1) (fun q => ?_)
    rcases hk with ⟨w1, w2⟩ | ⟨w1, w2, w3, w4⟩
    · rw [w1] at p1
      exact APl.mono (aps_rev hN p1 ⟨by omega, by omega⟩ ⟨⟨by omega, n16⟩, Int.le_refl _, a9.2⟩ (by rw [a10']; exact w2) a10.1) ⟨Int.le_refl _, Int.le_refl _⟩ (Nat.le_refl _) (Nat.le_refl _) ⟨by omega, by omega⟩ ⟨by omega, by omega⟩ ⟨Int.le_refl _, Int.le_refl _⟩ (fun _ _ => rfl) (fun _ hx => hx)
    · have oe := (cx.2.2.2.2.2.2.2.2.1 _ w3).1.ext W.2.2.2.1.1
      exact ap_pat_w hN hc ⟨h16, by omega, by omega⟩ W (Or.inr ⟨w1, w2, oe, w3, by rw [w4]; rfl⟩) q
  obtain ⟨kq, hkq⟩ : ∃ q, q = if 0 ≤ p then (1 : Int) else if 0 ≤ f then 2 else if e = (-1, -1) then 0 else if el b.2.2.1 81 e.2 = 0 then 3 else 4 := ⟨_, rfl⟩
  rw [← hkq] at k3
  by_cases cF : p < 0 ∧ f = 4
  · -- rev
    rw [if_neg (by omega), if_pos (by omega)] at hkq
    obtain ⟨π1, σ2, σ3, τ', c1, c2, c3, c4, c5, c6, c7, c7', c8, c9, c10, c11⟩ := done 4 e.2 9 (-1) (by decide) (by decide) (by decide) (by decide) (by rw [rtop, if_pos (by omega), r_readFun_89, grd_t (by exact ⟨by omega, by omega⟩), if_pos cF.2, r_readFun_124, grd_t (by exact ⟨by omega, by omega⟩), if_pos cF.2])
    rw [sf_id c4] at c5
    have k145 : fl σ1 145 44 = 4 := by rw [k5 cF.1 (by omega)]; exact cF.2
    have z145 : fl (zO σ1 (nn π) dfl) 145 44 = 4 := by rw [fl_zO, if_neg (by omega)]; exact k145
    refine ⟨π1, σ3, τ', nn π, 1, ?_, c8, c9, c10, Or.inr (c11 (Or.inl ⟨rfl, rfl⟩))⟩
    obtain ⟨m, hm⟩ : ∃ m, N = m + 1 := ⟨N - 1, by omega⟩
    have st : Rd_wants_9 N rA rF N π1 σ3 (nn π) (4 * 4) 0 = some (π1, σ3) := by
      have w := cw_stop (N := N) (rA := rA) (rF := rF) (n := m) (π := π1) (σ := σ3) (pc := nn π) (v := 4 * 4) (i := 0) ⟨by decide, by decide⟩ ⟨by decide, by decide⟩ (by rw [c7']; decide) (Or.inr (Or.inr (by decide)))
      rw [← hm] at w
      exact w
    rw [Rd_fun, grd_t tk.kd.1, if_pos h1, Rd_funName, k3, Option.bind_some]
    simp only
    rw [hkq, grd_t (by decide), if_pos rfl, k145, grd_t (by decide), if_pos rfl, Rd_funName_30, grd_t (by decide), if_neg (by decide), Rd_funName_51, Rd_funName_52, grd_t (by decide), if_neg (by decide), Rd_funName_78, Rd_named, Rd_named_3, grd_t (by decide), if_pos rfl, Rd_named_18, z145, z186 186 (Or.inr trivial), c1, Option.bind_some, grd_t c2]
    simp only
    rw [Rd_named_28, grd_t (by decide), if_pos rfl, c5, Option.bind_some, Rd_wants, grd_t c3]
    simp only [bnd]
    rw [c7, st, Option.bind_some]
    rfl
  by_cases cD : p < 0 ∧ f < 0 ∧ e ≠ (-1, -1) ∧ el b.2.2.1 81 e.2 = 1
  · -- a definition
    obtain ⟨d1, d2, d3, d4⟩ := cD
    have w := hdx d3
    rw [if_neg (by omega), if_neg (by omega), if_neg d3, if_neg (by omega)] at hkq
    have h146 := k6 d1 d2 (hde d3)
    obtain ⟨π1, σ2, σ3, τ', c1, c2, c3, c4, c5, c6, c7, c7', c8, c9, c10, c11⟩ := done 22 e.2 10 e.1 (by decide) (by decide) (by decide) (by decide) (by rw [rtop, if_pos (by omega), r_readFun_89, grd_t (by exact ⟨by omega, by omega⟩), if_neg (by omega), if_pos d2, grd_t (by exact ⟨by omega, by omega⟩), if_neg (by omega), grd_t (by exact ⟨w.1.1, w.1.2⟩), grd_t (by exact ⟨by omega, by omega⟩), if_pos (by omega), r_readFun_124, grd_t (by exact ⟨by omega, by omega⟩), if_neg (by omega)])
    have de := cx.2.2.2.2.2.2.2.2.1 e (hde d3)
    have de2 := cx.2.2.2.2.2.2.2.2.2 e (hde d3)
    refine ⟨π1, σ3, τ', nn π, 1, ?_, c8, c9, c10, Or.inr (c11 (Or.inr ⟨rfl, rfl, hde d3, d4⟩))⟩
    obtain ⟨m, hm⟩ : ∃ m, N = m + 1 := ⟨N - 1, by omega⟩
    have s22 : fl σ1 22 e.1 = 1 := by
      rw [k1.1 22 e.1 (by omega) (by omega) (by omega), de2.1, de2.2.1]; exact d4
    have s22' : fl σ2 22 e.1 = 1 := by rw [c6 22 e.1 de.1.2.1]; exact s22
    have s146 : fl σ2 146 44 = e.1 := by rw [c6 146 44 n44]; exact h146
    have o1 : ob π1 e.1 1 := de.1.ext c9.1
    have st : Rd_named_76 N rA rF N π1 σ3 (nn π) (1 - 1) 0 = some (π1, σ3, (nn π : Int)) := by
      conv => lhs; arg 4; rw [hm]
      rw [Rd_named_76, grd_t (by decide), grd_t (by decide), if_neg (by decide), Rd_named_106]
    rw [Rd_fun, grd_t tk.kd.1, if_pos h1, Rd_funName, k3, Option.bind_some]
    simp only
    rw [hkq, grd_t (by decide), if_neg (by decide), Rd_funName_29, Rd_funName_30, grd_t (by decide), if_pos rfl, h146, grd_t de.1, s22, grd_t (by decide), if_pos rfl, Rd_funName_52, grd_t (by decide), if_pos rfl, grd_t (by decide), if_neg (by decide), Rd_funName_78, Rd_named, Rd_named_3, grd_t (by decide), if_neg (by decide), Rd_named_18, z186 186 (Or.inr trivial), c1, Option.bind_some, grd_t c2]
    simp only
    rw [Rd_named_28, grd_t (by decide), if_neg (by decide), grd_t c3, s146, grd_t o1]
    simp only [bnd]
    rw [s22', c5, Option.bind_some, st, Option.bind_some]
    rfl
  -- other names
  have turn : rdK N 7 τ d = some (sf (sf τ 11 0 2) 12 0 (fl τ 4 0)) := by
    rw [rtop]
    by_cases c : p = -1
    · rw [if_pos c, r_readFun_89, grd_t (by exact ⟨by omega, by omega⟩), if_neg (by omega)]
      by_cases cf : f < 0
      · rw [if_pos cf, grd_t (by exact ⟨by omega, by omega⟩)]
        by_cases c2 : e = (-1, -1)
        · rw [if_pos (by rw [c2]), fl2]
        · have w := hdx c2
          rw [if_neg (by omega), grd_t (by exact ⟨w.1.1, w.1.2⟩), grd_t (by exact ⟨by omega, by omega⟩), if_neg (fun q => cD ⟨by omega, cf, c2, by omega⟩), fl2]
      · rw [if_neg cf, fl2]
    · rw [if_neg c]
  obtain ⟨q1, q2, q3⟩ := EXs.flt (dl := dl) (d := d) (f := 2) (p := fl τ 4 0) (t := 1) (sl := 0) hc h k1 (fun g _ => k2 g) (by omega) (by omega) ⟨by omega, by omega, by omega⟩
  refine ⟨π, _, _, -1, 1, ?_, RLp.one hK.1 ⟨hd.1, by omega⟩ f0.2 ⟨hK.2.1, by omega, by omega⟩ turn, q1, q2, Or.inl q3⟩
  have fin : ∀ x1 : Int, Rd_funName_52 N rA rF π σ1 x1 0 0 = some (π, sf (sf σ1 182 1 2) 183 1 (fl τ 4 0), -1) := fun x1 => by
    rw [Rd_funName_52, grd_t (by decide), if_pos rfl, grd_t (by decide), if_pos rfl, c_fail (by rw [fz]; decide), Option.bind_some, flS, if_pos fz, k2, tk.2.1]
  have k29 : Rd_funName N rA rF π σ = some (π, sf (sf σ1 182 1 2) 183 1 (fl τ 4 0), -1) := by
    rw [Rd_funName, k3, Option.bind_some]
    simp only
    have n4 : kq = 4 → False ∨ (p < 0 ∧ f < 0 ∧ e ≠ (-1, -1) ∧ el b.2.2.1 81 e.2 ≠ 0) := fun q => by
      rw [hkq] at q
      by_cases c1 : 0 ≤ p
      · rw [if_pos c1] at q; omega
      · rw [if_neg c1] at q
        by_cases c2 : 0 ≤ f
        · rw [if_pos c2] at q; omega
        · rw [if_neg c2] at q
          by_cases c3 : e = (-1, -1)
          · rw [if_pos c3] at q; omega
          · rw [if_neg c3] at q
            by_cases c4 : el b.2.2.1 81 e.2 = 0
            · rw [if_pos c4] at q; omega
            · exact Or.inr ⟨by omega, by omega, c3, c4⟩
    have body : Rd_funName_29 N rA rF π σ1 kq = some (π, sf (sf σ1 182 1 2) 183 1 (fl τ 4 0), -1) ∨ kq = 2 := by
      by_cases c2 : kq = 2
      · exact Or.inr c2
      left
      have ki : i32 kq := by
        rw [hkq]
        repeat' split
        all_goals decide
      rw [Rd_funName_29, Rd_funName_30, grd_t ki]
      by_cases c4 : kq = 4
      · rw [if_pos c4]
        rcases n4 c4 with w | ⟨w1, w2, w3, w4⟩
        · exact w.elim
        · have h146 := k6 w1 w2 (hde w3)
          have de := cx.2.2.2.2.2.2.2.2.1 e (hde w3)
          have de2 := cx.2.2.2.2.2.2.2.2.2 e (hde w3)
          have s22 : fl σ1 22 e.1 = el b.2.2.1 81 e.2 := by
            rw [k1.1 22 e.1 (by omega) (by omega) (by omega), de2.1, de2.2.1]
          have w := hdx w3
          rw [h146, grd_t de.1, s22, grd_t (by exact ⟨by omega, by omega⟩), if_neg (fun q => cD ⟨w1, w2, w3, q⟩), Rd_funName_51]
          exact fin kq
      · rw [if_neg c4, Rd_funName_51]
        exact fin kq
    rcases body with w | w
    · have ki : i32 kq := by
        rw [hkq]
        repeat' split
        all_goals decide
      rw [grd_t ki]
      by_cases c2 : kq = 2
      · have pf : p < 0 ∧ 0 ≤ f := by
          rw [hkq] at c2
          by_cases c1 : 0 ≤ p
          · rw [if_pos c1] at c2; omega
          · rw [if_neg c1] at c2
            by_cases c3 : 0 ≤ f
            · exact ⟨by omega, c3⟩
            · rw [if_neg c3] at c2
              split at c2
              · omega
              · split at c2 <;> omega
        have s145 := k5 pf.1 pf.2
        rw [if_pos c2, s145, grd_t (by exact ⟨by omega, by omega⟩), if_neg (fun q => cF ⟨pf.1, q⟩), w]
      · rw [if_neg c2, w]
    · have pf : p < 0 ∧ 0 ≤ f := by
        rw [hkq] at w
        by_cases c1 : 0 ≤ p
        · rw [if_pos c1] at w; omega
        · rw [if_neg c1] at w
          by_cases c3 : 0 ≤ f
          · exact ⟨by omega, c3⟩
          · rw [if_neg c3] at w
            split at w
            · omega
            · split at w <;> omega
      have s145 := k5 pf.1 pf.2
      rw [w, grd_t (by decide), if_pos rfl, s145, grd_t (by exact ⟨by omega, by omega⟩), if_neg (fun q => cF ⟨pf.1, q⟩), Rd_funName_29, Rd_funName_30, grd_t (by decide), if_neg (by decide), Rd_funName_51]
      exact fin 2
  rw [Rd_fun, grd_t tk.kd.1, if_pos h1, k29, Option.bind_some]
  rfl
/-- any FUN -/
theorem fun_all {op : Int} (hN : 30000001 ≤ N) (hc : CTX b dl) (hW : WTr b.2.2.1) (hA : op < 20 → ARH N b dl 5 1 0 11 rA (op + 1)) (hF : op < 20 → FUH N b dl rF (op + 1)) : FUH N b dl (Rd_fun N rA rF) op := by
  intro Xo π σ τ L Kn d h hop hK hd h73 hB
  by_cases c40 : fl σ 185 1 = 40
  · rw [if_pos c40] at hK
    obtain ⟨π', σ', τ', fc, t, u1, u2, u3, u4, u5⟩ := fun_par (rA := rA) (rF := rF) hN hc hW hA hF h hop hK hd hB c40
    refine ⟨π', σ', τ', fc, t, u1, u2, u3, u4, ?_⟩
    rw [if_pos c40]
    exact u5
  rw [if_neg c40] at hK
  by_cases c1 : fl σ 185 1 = 1
  · obtain ⟨π', σ', τ', fc, t, u1, u2, u3, u4, u5⟩ := fun_name (rA := rA) (rF := rF) hN hc h hop hK hd hB c1
    refine ⟨π', σ', τ', fc, t, u1, u2, u3, u4, ?_⟩
    rw [if_neg c40]
    exact u5
  have tk := h.2.1
  have l1 := tk.lf
  have f0 := h.2.2.1
  have op20 := h.2.2.2.1
  have kd := tk.kd
  obtain ⟨q1, q2, q3⟩ := EXs.flt (dl := dl) (d := d) (f := 1) (p := fl τ 4 0) (t := 1) (sl := 0) hc h (ERf.rf σ) (fun _ _ => rfl) (by omega) (by omega) ⟨by omega, by omega, by omega⟩
  refine ⟨π, _, _, -1, 1, ?_, RLp.one hK.1 ⟨hd.1, by omega⟩ f0.2 ⟨hK.2.1, by omega, by omega⟩ ?_, q1, q2, Or.inl (by rw [if_neg c40]; exact q3)⟩
  · rw [Rd_fun, grd_t kd.1, if_neg c1, if_neg c40, c_fail (by rw [f0.1]; decide), Option.bind_some, flS, if_pos f0.1, tk.2.1]
  · have t2 : ¬ fl τ 3 0 = 2 := fun e => c1 (kd.2.2.1.2 e)
    have t7 := kd.2.1
    show r_readFun N τ d = _
    rw [r_readFun, grd_t (by exact ⟨hd.1, by omega⟩), hK.2.2, grd_t (by decide), if_neg (by decide), tk.sign (c := 40) (by unfold isSgB; omega), Option.bind_some]
    simp only
    rw [if_neg c40, grd_t (by decide), if_pos rfl, grd_t (by exact ⟨by omega, by omega⟩), if_neg t2, r_fail0 f0.2, Option.bind_some]
end FY9
