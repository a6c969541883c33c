/-! expressions: a name that stands for a pattern -/
section AP8
variable {N : Nat} {b : Bse} {Xo : Int → Prop} {dl : List (Int × Int)}
theorem XEs.gen {X' : Int → Prop} {π π' : Sh} {σ σ' τ : St} {L L' : List Stq} {Kn Kn' : List Int} (h : XEs b Xo π σ τ L Kn) (he : EFt (bX b) (bY b) b.1 b.2.1 π' σ') (hx : ext π π') (k1 : ∀ g : Nat, fl σ' g 1 = fl σ g 1) (k2 : fl σ' 144 44 = fl σ 144 44) (k3 : ∀ j, el σ' 2 j = el σ 2 j) (hb : BDy X' π' σ' τ (bD b) (bP b) L' Kn') (hX : ∀ x, X' x → nn b.1 ≤ x) : XEs b X' π' σ' τ L' Kn' := by
  obtain ⟨h1, h2, h3, h4, h5, h6, h7, h8, h9, h10⟩ := h
  exact ⟨h1.ext hx, h2.cg (fun f _ => k1 f) k3 (fun _ _ => rfl) (fun _ => rfl), by rw [k1]; exact h3, by rw [k1]; exact h4, by rw [k2]; exact h5, hb, he, h8, h9, hX⟩
theorem LSc.a56 {α : Type} {π : Sh} {σ : St} {x : Int} {R : Int → α → Prop} {l : List α} (h : LSc π σ x R l) : fl σ 1 x < 0 ∨ 56 ≤ fl σ 1 x := by
  rcases h.2 with q | q
  · exact Or.inl q.2
  · exact Or.inr q.2.1
/-- lists and new cells -/
theorem XEs.cl {X' : Int → Prop} {π π' : Sh} {σ σ' τ : St} {L L' : List Stq} {Kn Kn' : List Int} (hc : CTX b dl) (h : XEs b Xo π σ τ L Kn) (k : EFt (bX b) (bY b) π σ π' σ') (k1 : ∀ g : Nat, fl σ' g 1 = fl σ g 1) (hb : BDy X' π' σ' τ (bD b) (bP b) L' Kn') (hX : ∀ x, X' x → nn b.1 ≤ x) : XEs b X' π' σ' τ L' Kn' := by
  have hx := h.x hc
  obtain ⟨c1, c2, c3, -⟩ := hc
  have n56 := h.1.1
  have b6 := h.2.2.2.2.2.1
  have a1 := b6.2.1.a56
  have a2 := b6.2.2.1.a56
  rw [hx.1] at a1
  rw [hx.2] at a2
  exact h.gen (h.2.2.2.2.2.2.1.tr k) k.1 k1 (k.2.1 144 44 (by omega) (by omega) (by omega) (by omega) (by omega)) (fun j => k.2.2.1 2 j (by omega) (by omega) (by omega)) hb hX
theorem XEs.lt {π : Sh} {σ τ : St} {L : List Stq} {Kn : List Int} (hc : CTX b dl) (h : XEs b Xo π σ τ L Kn) : (56 ≤ bX b ∧ bX b < nn π ∧ 56 ≤ bY b ∧ bY b < nn π ∧ bX b ≠ bY b) ∧ (fl σ 1 (bX b) < nn π ∧ fl σ 1 (bY b) < nn π) ∧ (56 ≤ bD b ∧ bD b < nn π) := by
  have hx := h.x hc
  obtain ⟨c1, c2, c3, -⟩ := hc
  have e := h.2.2.2.2.2.2.1.1.1
  have b6 := h.2.2.2.2.2.1
  have q := b6.b
  rw [hx.1, hx.2] at q
  exact ⟨⟨c3.1, by omega, c3.2.2.1, by omega, c3.2.2.2.2⟩, ⟨q.2.2.2.1, q.2.2.2.2⟩, ⟨c2.1, by omega⟩⟩
/-- the tables of the reference alone -/
theorem XEs.rt {π : Sh} {σ τ τ' : St} {L : List Stq} {Kn : List Int} {lo d : Int} (hc : CTX b dl) (h : XEs b Xo π σ τ L Kn) (hr : RDr lo d τ τ') (hl : bV b ≤ lo) (hd : 0 ≤ d) (h16 : bV b ≤ fl τ' 16 0) (hf : ∀ f : Nat, (3 ≤ f ∧ f ≤ 13) → fl τ' f 0 = fl τ f 0) : XEs b Xo π σ τ' L Kn := by
  refine h.mv hc (ERf.rf _) hr hl hd h16 ?_ ?_ ?_
  · rw [hf 11 (by omega)]; exact h.2.2.1
  · rw [hf 13 (by omega)]; exact h.2.2.2.1
  · exact h.2.1.rd (fun _ _ => rfl) (fun _ => rfl) hr (fun f hf' => hf f (by omega))
/-- what was found alone -/
theorem XEs.fo {π : Sh} {σ σ' τ : St} {L : List Stq} {Kn : List Int} (hc : CTX b dl) (h : XEs b Xo π σ τ L Kn) (k : ERf σ σ') (k1 : ∀ g : Nat, fl σ' g 1 = fl σ g 1) : XEs b Xo π σ' τ L Kn := by
  refine h.mv hc k (RDr.rf (bV b) 0 _) (Int.le_refl _) (Int.le_refl _) h.2.2.2.2.2.2.2.2.1 ?_ ?_ ?_
  · rw [k1]; exact h.2.2.1
  · rw [k1]; exact h.2.2.2.1
  · exact h.2.1.cg (fun f _ => k1 f) (fun j => k.2 2 j) (fun _ _ => rfl) (fun _ => rfl)
theorem RmE.er {x y A B : Int} {π : Sh} {σ σ' : St} (k : ERf σ σ') (hx : 56 ≤ x ∧ 56 ≤ y) (hl : fl σ 1 x < nn π ∧ fl σ 1 y < nn π) (hA : 0 ≤ A ∧ 0 ≤ B) : RmE x y π σ π σ' A B := RmE.same ⟨k.1 1 x (by omega) (by omega) (by omega), k.1 1 y (by omega) (by omega) (by omega)⟩ (ext.rf _) hl (by omega) (by omega)
/-- the reference's turn at a name -/
theorem ra_name {σ τ : St} {d p f : Int} {e : Int × Int} (tk : TKr σ τ) (h1 : fl σ 185 1 = 1) (hF : FRx τ d 5) (hd : 0 ≤ d ∧ d < 500) (f0 : fl τ 11 0 = 0) (r1 : r_paramHere N τ = some (τ, p)) (r2 : r_functionHere N τ = some (τ, f)) (r3 : r_definitionHere N τ = some (τ, e.2)) (p1 : p = -1 ∨ (0 ≤ p ∧ p < bP b)) (hP : bP b ≤ 4) (f1 : f = -1 ∨ (0 ≤ f ∧ f ≤ 20)) (hdef : (e : Int × Int) = (-1, -1) ∨ (0 ≤ e.2 ∧ e.2 < 6000 ∧ el τ 81 e.2 = el b.2.2.1 81 e.2 ∧ (0 ≤ el τ 81 e.2 ∧ el τ 81 e.2 ≤ 4))) : rdK N 5 τ d = if p = -1 ∧ ¬ (f < 0 ∧ e ≠ (-1, -1) ∧ el b.2.2.1 81 e.2 = 0) then some (sf (sf τ 11 0 2) 12 0 (fl τ 4 0)) else r_readArg_303 N τ p e.2 (if p < 0 then 6 else 5) := by
  have t3 : fl τ 3 0 = 2 := tk.kd.2.2.1.1 h1
  show r_readArg N τ d = _
  rw [r_readArg, grd_t (by exact ⟨by omega, by omega⟩), hF.2.2, grd_t (by decide), if_neg (by decide), if_neg (by decide), t3, grd_t (by decide), if_neg (by decide), tk.sign (c := 40) (by unfold isSgB; omega), Option.bind_some]
  simp only
  rw [if_neg (show ¬ fl σ 185 1 = 40 by omega), grd_t (by decide), if_pos rfl, t3, grd_t (by decide), if_pos rfl, r1, Option.bind_some]
  simp only
  rw [r3, Option.bind_some]
  simp only
  rw [grd_t (by exact ⟨by omega, by omega⟩)]
  have flt : r_readArg_282 N τ = some (sf (sf τ 11 0 2) 12 0 (fl τ 4 0)) := by
    rw [r_readArg_282, r_fail0 f0, Option.bind_some]
  have to92 : r_readArg_292 N τ p e.2 = r_readArg_303 N τ p e.2 (if p < 0 then 6 else 5) := by
    rw [r_readArg_292, grd_t (by exact ⟨by omega, by omega⟩)]
    by_cases c : p < 0
    · rw [if_pos c, if_pos c]
    · rw [if_neg c, if_neg c]
  by_cases c1 : p = -1
  · rw [if_pos c1, r2, Option.bind_some]
    simp only
    rw [grd_t (by exact ⟨by omega, by omega⟩)]
    by_cases c2 : f < 0
    · rw [if_pos c2]
      rcases hdef with q | ⟨q1, q2, q3, q4⟩
      · have qe : e.2 = -1 := by rw [q]
        rw [qe, grd_t (by decide), if_pos rfl, flt, if_pos ⟨c1, fun w => w.2.1 q⟩]
      · rw [grd_t (by exact ⟨by omega, by omega⟩), if_neg (by omega), grd_t (by exact ⟨q1, q2⟩), grd_t (by exact ⟨by omega, by omega⟩)]
        have ne : e ≠ (-1, -1) := fun q => by rw [q] at q1; omega
        by_cases c3 : 0 < el τ 81 e.2
        · rw [if_pos c3, flt, if_pos ⟨c1, fun w => by omega⟩]
        · rw [if_neg c3, to92, if_neg (show ¬ (p = -1 ∧ ¬ (f < 0 ∧ e ≠ (-1, -1) ∧ el b.2.2.1 81 e.2 = 0)) from fun w => w.2 ⟨c2, ne, by omega⟩)]
    · rw [if_neg c2, flt, if_pos ⟨c1, fun w => c2 w.1⟩]
  · rw [if_neg c1, to92, if_neg (show ¬ (p = -1 ∧ ¬ (f < 0 ∧ e ≠ (-1, -1) ∧ el b.2.2.1 81 e.2 = 0)) from fun w => c1 w.1)]
set_option maxHeartbeats 2000000 in
/-- a name that stands for a pattern -/
theorem arg_name {π : Sh} {σ τ : St} {L : List Stq} {Kn : List Int} {d : Int} (hN : 30000001 ≤ N) (hc : CTX b dl) (h : XEs b Xo π σ τ L Kn) (h1 : fl σ 185 1 = 1) (hF : FRx τ d 5) (hd : 0 ≤ d ∧ d < 500) (hB : PRE τ L Kn) : ∃ π' σ' τ' o t, Rd_patternName N π σ = some (π', σ', o) ∧ RLp N t τ τ' ∧ EXo N b dl Xo L Kn d 1 0 π σ τ π' σ' τ' o t := by
  obtain ⟨p, f, e, σ1, r1, r2, r3, p1, f1, e1, k1, k2, k3, k4, k5, k6⟩ := kind_all (N := N) (by omega) hc h h1
  obtain ⟨x1, x2, x3, x4, x5, x6, x7, x8, x11, x12⟩ := h.cx hc
  have tk := h.2.1
  have l1 := tk.lf
  obtain ⟨⟨i185, t7, t2, -⟩⟩ := id (And.intro tk.kd trivial)
  have t3 : fl τ 3 0 = 2 := t2.1 h1
  have f0 := h.2.2.1
  have v16 := h.2.2.2.2.2.2.2.2.1
  have bv : 0 ≤ bV b := by obtain ⟨-, -, -, -, -, -, -, -, -, q⟩ := hc; exact q
  obtain ⟨b1, b2, b3⟩ := hB
  have hx1 := h.fo hc k1 k2
  have h4 := h.2.2.2.1
  have hP : bP b ≤ 4 := by obtain ⟨-, -, -, -, ⟨q, -⟩, -⟩ := hc; exact q.2
  have lx := h.lt hc
  -- the reference's turn
  have hdef : (e : Int × Int) = (-1, -1) ∨ (0 ≤ e.2 ∧ e.2 < 6000 ∧ el τ 81 e.2 = el b.2.2.1 81 e.2 ∧ (0 ≤ el τ 81 e.2 ∧ el τ 81 e.2 ≤ 4)) := by
    rcases e1 with q | q
    · exact Or.inl q
    · have y1 := x11 e q
      have y2 := x12 e q
      exact Or.inr ⟨y1.2.2.2.1, y1.2.2.2.2, y2.2.1, by rw [← y2.1]; exact y1.2.2.1⟩
  have hrd := ra_name (N := N) (b := b) tk h1 hF hd f0.2 r1 r2 r3 p1 hP f1 hdef
  have em : e ≠ (-1, -1) → e ∈ dl := fun q => by rcases e1 with w | w; exact absurd w q; exact w
  have hde : e ≠ (-1, -1) → 0 ≤ e.2 ∧ e.2 < 6000 := fun q => by rcases hdef with w | w; exact absurd w q; exact ⟨w.1, w.2.1⟩
  have p1' : -1 ≤ p ∧ p < 5 ∧ (¬ p < 0 → p < bP b) := by omega
  have f1' : -1 ≤ f ∧ f ≤ 20 := by omega
  clear p1 f1 e1 hdef
  by_cases cF : p = -1 ∧ ¬ (f < 0 ∧ e ≠ (-1, -1) ∧ el b.2.2.1 81 e.2 = 0)
  · -- no pattern
    rw [if_pos cF] at hrd
    have hk : ∀ q, (q = if 0 ≤ p then (1 : Int) else if 0 ≤ f then 2 else if e = (-1, -1) then 0 else if el b.2.2.1 81 e.2 = 0 then 3 else 4) → i32 q ∧ q ≠ 1 ∧ q ≠ 3 := by
      intro q hq
      rw [if_neg (by omega)] at hq
      by_cases c2 : 0 ≤ f
      · rw [if_pos c2] at hq; rw [hq]; decide
      · rw [if_neg c2] at hq
        by_cases c3 : e = (-1, -1)
        · rw [if_pos c3] at hq; rw [hq]; decide
        · rw [if_neg c3] at hq
          by_cases c4 : el b.2.2.1 81 e.2 = 0
          · exact absurd ⟨by omega, c3, c4⟩ cF.2
          · rw [if_neg c4] at hq; rw [hq]; decide
    obtain ⟨q, hq⟩ : ∃ q, q = if 0 ≤ p then (1 : Int) else if 0 ≤ f then 2 else if e = (-1, -1) then 0 else if el b.2.2.1 81 e.2 = 0 then 3 else 4 := ⟨_, rfl⟩
    obtain ⟨u1, u2, u3⟩ := hk q hq
    rw [← hq] at k3
    refine ⟨π, _, _, 0, 1, ?_, RLp.one hF.1 ⟨hd.1, by omega⟩ f0.2 ⟨hF.2.1, by omega, by omega⟩ hrd, EXo.flt (N := N) (c := 1) (p := fl τ 4 0) (f := 2) (o := 0) (t := 1) hc h k1 (fun g _ => k2 g) (RDr.rf _ _ _) (by omega) (by omega) (Int.le_refl _)⟩
    rw [Rd_patternName, k3, Option.bind_some]
    simp only
    rw [grd_t u1, if_neg u2, if_neg u3, k2, tk.2.1]
    have fz : fl σ1 182 1 = 0 := by rw [k2]; exact f0.1
    rw [c_fail (by rw [fz]; decide), Option.bind_some, flS, if_pos fz]
  · rw [if_neg cF] at hrd
    obtain ⟨n, hn⟩ : ∃ n, n = fl τ 16 0 := ⟨_, rfl⟩
    have n0 : 0 ≤ n ∧ n < 32768 := by omega
    obtain ⟨K, hK⟩ : ∃ K : Int, K = if p < 0 then 6 else 5 := ⟨_, rfl⟩
    obtain ⟨pv, hpv⟩ : ∃ pv : Int, pv = if p < 0 then el τ 79 e.2 else p := ⟨_, rfl⟩
    obtain ⟨τn, hτn⟩ : ∃ τn, τn = se (nwN τ K (fl τ 4 0)) 92 n pv := ⟨_, rfl⟩
    have rdn : RDr (fl τ 16 0) d τ τn := by rw [hτn]; exact (nwN_rd (RDr.rf _ _ _) K _ (Int.le_refl _)).sn 92 n pv (by omega) (by omega)
    have fn : ∀ g : Nat, g ≠ 16 → fl τn g 0 = fl τ g 0 := fun g hg => by rw [hτn, fl_se]; exact nwN_fl _ _ _ _ _ hg
    have fn16 : fl τn 16 0 = fl τ 16 0 + 1 := by rw [hτn, fl_se]; exact nwN_16 _ _ _
    have hxn : XEs b Xo π σ1 τn L Kn := hx1.rt hc rdn (by omega) hd.1 (by omega) (fun g hg => fn g (by omega))
    obtain ⟨σ2, τ2, a1, a2, a3, a4, a5, a6, a7, a8⟩ := hxn.adv (N := N) (by omega) hc (by rw [k2]; omega)
    have n85 : fl τn 41 0 = d + 1 := by rw [fn 41 (by decide)]; exact hF.1
    obtain ⟨τ3, hτ3⟩ : ∃ τ3, τ3 = sf (sf τ2 46 0 n) 41 0 (fl τ2 41 0 - 1) := ⟨_, rfl⟩
    have rd3 : RDr (fl τ 16 0) d τ τ3 := by rw [hτ3]; exact ((rdn.tr (RDr.sc (lo := fl τ 16 0) (d := d) a5) (Int.le_refl _) (Int.le_refl _)).sf 46 n (by omega)).sf 41 _ (by omega)
    have g3 : ∀ g : Nat, g ≠ 46 → g ≠ 41 → fl τ3 g 0 = fl τ2 g 0 := fun g x y => by rw [hτ3, fl_sfn _ _ _ _ y, fl_sfn _ _ _ _ x]
    have e3 : ∀ a i, el τ3 a i = el τn a i := fun a i => by rw [hτ3]; exact a5.2 a i
    have t16 : fl τ3 16 0 = fl τ 16 0 + 1 := by rw [g3 16 (by decide) (by decide), a5.1 16 0 (by omega), fn16]
    have hx3 : XEs b Xo π σ2 τ3 L Kn := a3.rt hc (by rw [hτ3]; exact ((RDr.rf (bV b) 0 τ2).sf 46 n (by omega)).sf 41 _ (by omega)) (Int.le_refl _) (Int.le_refl _) (by omega) (fun g hg => g3 g (by omega) (by omega))
    have hstep : rdK N 5 τ d = some τ3 := by
      rw [hrd, ← hK, r_readArg_303, r_node' ⟨by omega, by omega⟩, Option.bind_some]
      simp only
      rw [grd_t (by exact ⟨by omega, by omega⟩)]
      have tail : ∀ v, v = pv → r_readArg_332 N (nwN τ K (fl τ 4 0)) (fl τ 16 0) v (fl τ 16 0) = some τ3 := fun v hv => by
        rw [r_readArg_332, ← hn, grd_t (by exact n0), hv]
        simp only [bnd]
        rw [← hτn, a2, Option.bind_some, r_finish', Option.bind_some, hτ3]
      by_cases cp : p < 0
      · rw [if_pos cp]
        have qq : ¬ (p = -1 ∧ ¬ (f < 0 ∧ e ≠ (-1, -1) ∧ el b.2.2.1 81 e.2 = 0)) := cF
        have pe : p = -1 := by omega
        have me : e ≠ (-1, -1) := fun w => qq ⟨pe, fun z => z.2.1 w⟩
        have ⟨q1, q2⟩ := hde me
        · rw [grd_t (by exact ⟨q1, q2⟩)]
          exact tail _ (by rw [hpv, if_pos cp, nwN_el _ _ _ _ _ (by omega)])
      · rw [if_neg cp]
        exact tail _ (by rw [hpv, if_neg cp])
    have lf2 : lf τ3 + 1 ≤ lf τ := by
      have q1 : fl τ3 1 0 = fl τ 1 0 := rd3.1 1 0 (by omega) (by decide) (by decide) (by decide) (by decide)
      have q2 : fl τ3 4 0 = fl τ2 4 0 := g3 4 (by decide) (by decide)
      have q3 : fl τn 4 0 = fl τ 4 0 := fn 4 (by decide)
      have q4 : fl σ1 185 1 = 1 := by rw [k2]; exact h1
      unfold lf
      omega
    have rl : RLp N 1 τ τ3 := RLp.one hF.1 ⟨hd.1, by omega⟩ f0.2 ⟨hF.2.1, by omega, by omega⟩ hstep
    have v94 : el τ3 94 n = K ∧ el τ3 92 n = pv := by
      have q := nwN_v τ K (fl τ 4 0)
      rw [← hn] at q
      constructor
      · rw [e3, hτn, el_sen _ _ _ _ (by decide)]; exact q.1
      · rw [e3, hτn, el_ses]
    have kk : ERf σ σ2 := k1.tr (ERf.sc a4)
    have d41 : fl τ3 41 0 = d := by rw [hτ3, fl_sfs, a5.1 41 0 (by omega), n85]; omega
    have d46 : fl τ3 46 0 = n := by rw [hτ3, fl_sfn _ _ _ _ (by decide), fl_sfs]
    have d13 : fl τ3 13 0 = fl τ 13 0 := by rw [g3 13 (by decide) (by decide), a5.1 13 0 (by omega), fn 13 (by decide)]
    by_cases cp : p < 0
    · have pe : p = -1 := by omega
      have qq : f < 0 ∧ e ≠ (-1, -1) ∧ el b.2.2.1 81 e.2 = 0 := by
        by_cases w : f < 0 ∧ e ≠ (-1, -1) ∧ el b.2.2.1 81 e.2 = 0
        · exact w
        · exact absurd ⟨pe, w⟩ cF
      have em : e ∈ dl := em qq.2.1
      have y1 := x11 e em
      have y2 := x12 e em
      have y3 := x12 e em
      obtain ⟨y4, y5⟩ := y2.2.2 (by rw [y2.1, y2.2.1]; exact qq.2.2)
      have e22 : ∀ g : Nat, 3 ≤ g → g < 40 → fl σ2 g e.1 = fl σ g e.1 := fun g x y => kk.1 g e.1 (by omega) (by omega) (by omega)
      have hp3 : HP π σ π σ2 := ⟨ext.rf _, fun g i a x _ => kk.1 g i (by unfold inF at a; omega) (by unfold inF at a; omega) (by unfold inF at a; omega), fun a j _ _ _ => kk.2 a j⟩
      have n56 := h.1.1
      have y6 : ob π (fl σ2 26 e.1) 5 ∧ PRX Xo π σ2 τ3 (fl σ2 26 e.1) pv := by
        rw [e22 26 (by omega) (by omega), hpv, if_pos cp]
        exact ⟨y4, y5.mv hp3 (TX.rd rd3)⟩
      obtain ⟨π4, σ4, z1, z2, z3, z4, z5, z6, z7⟩ := c_dfKnown (N := N) n56 hx3.2.2.2.2.2.1 (by omega) y6
      have hx24 := hx3.x hc
      rw [hx24.2] at z2 z5
      have k4e : EFt (bX b) (bY b) π σ2 π4 σ4 := EFt.ly z2 ⟨by omega, by omega⟩
      have hx4 : XEs b Xo π4 σ4 τ3 L (Kn ++ [pv]) := hx3.cl hc k4e (fun g => z2.2.1 g 1 (by omega) (by omega)) z3 h.2.2.2.2.2.2.2.2.2
      have z5' : (sw π4 : Int) + 4 * cpc π σ2 (bY b) ≤ sw π + 4 * cpc π4 σ4 (bY b) := by
        have w : fl σ4 24 (bD b) = bY b := (hx4.x hc).2
        rw [w] at z5
        exact z5
      have cx : cpc π4 σ4 (bX b) = cpc π σ2 (bX b) := cpc_eq (z2.2.1 1 (bX b) (by omega) (by omega)) z2.1 (hx3.lt hc).2.1.1
      refine ⟨π4, σ4, τ3, -((Kn.length : Int) + 1), 1, ?_, rl, (EFt.rd kk ⟨by omega, by omega⟩).tr k4e, rd3, Or.inr ⟨[], [pv], n, 1, 1, 1, by rw [List.append_nil]; exact hx4, ⟨d41, d46, d13⟩, ⟨by omega, by omega⟩, ?_, ?_, fun y hy => absurd hy (by simp), ⟨⟨by omega, by omega⟩, ⟨by omega, by omega⟩, by omega, by omega, lf2, by omega⟩, ⟨by simp; omega, by simp; omega⟩, ?_⟩⟩
      · have hq : (if 0 ≤ p then (1 : Int) else if 0 ≤ f then 2 else if e = (-1, -1) then 0 else if el b.2.2.1 81 e.2 = 0 then 3 else 4) = 3 := by rw [if_neg (by omega), if_neg (by omega), if_neg qq.2.1, if_pos qq.2.2]
        rw [hq] at k3
        rw [Rd_patternName, k3, Option.bind_some]
        simp only
        rw [grd_t (by decide), if_neg (by decide), if_pos trivial, Rd_patternName_39, a1, Option.bind_some, grd_t (by decide), if_neg (by decide)]
        have f146 : fl σ2 146 44 = e.1 := by rw [a4.1 146 44 (by omega)]; exact k6 cp qq.1 em
        have f144 : fl σ2 144 44 = bD b := hx3.2.2.2.2.1
        rw [f146, grd_t y1.1, f144, z1, Option.bind_some, grd_t hx3.2.2.2.2.2.1.1.1]
        rfl
      · rw [v94.1, hK, if_pos cp]; decide
      · intro x y hx
        have hl := HLv_b hx
        have t := tk_known (U := UDl N x) (ℓ := 12 - x) (τp := se τ3 85 n y) (vlo := bV b) (lo := fl τ 16 0) (hi := fl τ3 16 0) (P := bP b) (Kn := Kn ++ [pv]) (j := L.length) (u := HLv (13 - x) + 1) (v := HLv (13 - x) + 1) (k := 1) (δ := 0) (avq := []) (n := n) (p := pv) (m := Kn.length) hN ⟨n0, by omega, by omega⟩ (by rw [el_sen _ _ _ _ (by decide), v94.1, hK, if_pos cp]) (by rw [el_sen _ _ _ _ (by decide)]; exact v94.2) (by simp) (by omega) (by omega) (by omega) (Nat.le_refl _)
        have eo : -(Kn.length : Int) - 1 = -((Kn.length : Int) + 1) := by omega
        rw [eo] at t
        exact t
      · refine (RmE.tr (RmE.er (A := 0) (B := 0) kk ⟨by omega, by omega⟩ lx.2.1 ⟨by omega, by omega⟩) (⟨?_, ?_⟩ : RmE (bX b) (bY b) π σ2 π4 σ4 1 0)).mono (by omega) (by omega)
        · omega
        · omega
    · refine ⟨π, σ2, τ3, p, 1, ?_, rl, EFt.rd kk ⟨by omega, by omega⟩, rd3, Or.inr ⟨[], [], n, 1, 1, 1, by rw [List.append_nil, List.append_nil]; exact hx3, ⟨d41, d46, d13⟩, ⟨by omega, by omega⟩, ?_, ?_, fun y hy => absurd hy (by simp), ⟨⟨by omega, by omega⟩, ⟨by omega, by omega⟩, by omega, by omega, lf2, by omega⟩, ⟨by simp; omega, by simp; omega⟩, RmE.er kk ⟨by omega, by omega⟩ lx.2.1 ⟨by omega, by omega⟩⟩⟩
      · have hq : (if 0 ≤ p then (1 : Int) else if 0 ≤ f then 2 else if e = (-1, -1) then 0 else if el b.2.2.1 81 e.2 = 0 then 3 else 4) = 1 := by rw [if_pos (by omega)]
        rw [hq] at k3
        rw [Rd_patternName, k3, Option.bind_some]
        simp only
        rw [grd_t (by decide), if_pos trivial, Rd_patternName_39, a1, Option.bind_some, grd_t (by decide), if_pos rfl, Rd_patternName_72, a4.1 145 44 (by omega), k4 (by omega)]
      · rw [v94.1, hK, if_neg cp]; decide
      · intro x y hx
        have hl := HLv_b hx
        rw [List.append_nil]
        exact tk_param (U := UDl N x) (ℓ := 12 - x) (τp := se τ3 85 n y) (vlo := bV b) (lo := fl τ 16 0) (hi := fl τ3 16 0) (P := bP b) (Kn := Kn) (j := L.length) (u := HLv (13 - x) + 1) (v := HLv (13 - x) + 1) (k := 1) (δ := 0) (avq := []) (n := n) (i := p) hN ⟨n0, by omega, by omega⟩ (by rw [el_sen _ _ _ _ (by decide), v94.1, hK, if_neg cp]) (by rw [el_sen _ _ _ _ (by decide), v94.2, hpv, if_neg cp]) (by omega) (by omega) (by omega) (Nat.le_refl _)
end AP8
