/-! expressions: a text, and what opens too deep -/
section AT
variable {N : Nat} {b : Bse} {Xo : Int → Prop} {dl : List (Int × Int)} {rA rF : Sh → St → Option (Sh × St × Int)}
/-- it opens too deep -/
theorem arg_deep {π : Sh} {σ τ : St} {L : List Stq} {Kn : List Int} {d s : Int} (hc : CTX b dl) (h : XEs b Xo π σ τ L Kn) (hs : (fl σ 185 1 = 4 ∧ s = 1) ∨ (fl σ 185 1 = 40 ∧ s = 0)) (hF : FRx τ d 5) (hd : 0 ≤ d ∧ d < 500) (hop : fl τ 13 0 = 20) : ∃ π' σ' τ' o t, Rd_arg_66 N rA rF π σ s = some (π', σ', o) ∧ RLp N t τ τ' ∧ EXo N b dl Xo L Kn d 1 0 π σ τ π' σ' τ' o t := by
  have tk := h.2.1
  have f0 := h.2.2.1
  have h4 := h.2.2.2.1
  have kd := tk.kd
  refine ⟨π, _, _, 0, 1, ?_, RLp.one hF.1 ⟨hd.1, by omega⟩ f0.2 ⟨hF.2.1, by omega, by omega⟩ ?_, EXo.flt (N := N) (c := 1) (p := fl τ 4 0) (f := 4) (o := 0) (t := 1) hc h (ERf.rf σ) (fun g _ => rfl) (RDr.rf _ _ τ) (by omega) (by omega) (Int.le_refl _)⟩
  · rw [Rd_arg_66, Sc_opens, h4.1, hop, grd_t (by decide), if_neg (by decide), c_fail (by rw [f0.1]; decide), Option.bind_some, flS, if_pos f0.1, Option.bind_some]
    simp only
    rw [grd_t (by decide), if_pos trivial, tk.2.1]
  · have op : r_isOpen N τ (fl τ 4 0) = some (sf (sf τ 11 0 4) 12 0 (fl τ 4 0), 0) := by
      rw [r_isOpen, hop, grd_t (by decide), if_pos rfl, r_fail0 f0.2, Option.bind_some]
    show r_readArg N τ d = _
    rw [r_readArg, grd_t (by exact ⟨by omega, by omega⟩), hF.2.2, grd_t (by decide), if_neg (by decide), if_neg (by decide)]
    rcases hs with ⟨s1, -⟩ | ⟨s1, -⟩
    · have t5 := kd.2.2.2.1.1 s1
      rw [t5, grd_t (by decide), if_pos rfl, op, Option.bind_some]
      simp only
      rw [grd_t (by decide), if_pos trivial]
    · have t5 : ¬ fl τ 3 0 = 5 := fun e => by have := kd.2.2.2.1.2 e; omega
      rw [grd_t (by exact ⟨by omega, by omega⟩), if_neg t5, tk.sign (c := 40) (by unfold isSgB; omega), Option.bind_some]
      simp only
      rw [if_pos s1, grd_t (by decide), if_neg (by decide), op, Option.bind_some]
      simp only
      rw [grd_t (by decide), if_pos trivial]
/-- the text begins: both -/
theorem text_start {π : Sh} {σ τ : St} {L : List Stq} {Kn : List Int} {d : Int} (hc : CTX b dl) (h : XEs b Xo π σ τ L Kn) (h1 : fl σ 185 1 = 4) (hF : FRx τ d 5) (hd : 0 ≤ d ∧ d < 500) (hop : fl τ 13 0 < 20) : ∃ σo σs τs, Sc_opens N π σ (fl σ 186 1) = some (σo, 1) ∧ Tx_start N π σo (fl σo 144 44) (fl σo 186 1) ((fl σo 187 1) - 1) = some σs ∧ rdK N 5 τ d = some τs ∧ XS Xo π σs τs (bD b) (bP b) L Kn (fl τ 4 0 + 1) (fl τ 5 0 - 1) ∧ ERf σ σs ∧ (∀ g : Nat, g ≠ 184 → fl σs g 1 = fl σ g 1) ∧ RDr (fl τ 16 0) d τ τs ∧ (fl τs 13 0 = fl τ 13 0 + 1 ∧ fl τs 41 0 = d + 2 ∧ fl τs 16 0 = fl τ 16 0 ∧ fl τs 2 0 = fl τ 4 0 + 1) ∧ (el τs 74 (d + 1) = 10 ∧ el τs 72 (d + 1) = 0 ∧ el τs 71 (d + 1) = 0) ∧ (el τs 74 d = 5 ∧ el τs 72 d = 2 ∧ el τs 71 d = fl τ 5 0 - 1) := by
  have tk := h.2.1
  have f0 := h.2.2.1
  have h4 := h.2.2.2.1
  have kd := tk.kd
  have h5 := h.2.2.2.2.1
  have v16 := h.2.2.2.2.2.2.2.2.1
  have bv : 0 ≤ bV b := by obtain ⟨-, -, -, -, -, -, -, -, -, q⟩ := hc; exact q
  have t5 := kd.2.2.2.1.1 h1
  obtain ⟨rt, t1, t2, t3, t4, t6⟩ := id tk
  have tx : (fl τ 4 0 + 2 ≤ fl τ 5 0 ∧ fl τ 5 0 ≤ fl τ 1 0) ∧ bA τ (fl τ 5 0 - 1) = 34 ∧ ∀ i, fl τ 4 0 < i → i < fl τ 5 0 - 1 → 32 ≤ bA τ i ∧ bA τ i ≤ 126 ∧ bA τ i ≠ 34 := by
    rcases t6 with q | q | ⟨q, -⟩ | q | q | q | q | ⟨sg, s1, s2, -⟩
    · omega
    · omega
    · omega
    · omega
    · omega
    · exact q.2.2
    · omega
    · unfold isSgB isOpB at s1; omega
  obtain ⟨σs, hσs⟩ : ∃ σs, σs = sf (sf (sf (sf (sf σ 184 1 (fl σ 184 1 + 1)) 221 50 (bD b)) 222 50 (fl τ 4 0 + 1)) 223 50 (fl τ 5 0 - 1)) 224 50 0 := ⟨_, rfl⟩
  obtain ⟨τ0, hτ0⟩ : ∃ τ0, τ0 = sf (sf (se (se (sf τ 13 0 (fl τ 13 0 + 1)) 72 d 2) 71 d (fl τ 5 0 - 1)) 2 0 (fl τ 4 0 + 1)) 47 0 0 := ⟨_, rfl⟩
  have o41 : fl τ0 41 0 = d + 1 := by rw [hτ0, fl_sfn _ _ _ _ (by decide), fl_sfn _ _ _ _ (by decide), fl_se, fl_se, fl_sfn _ _ _ _ (by decide)]; exact hF.1
  have rd0 : RDr (fl τ 16 0) d τ τ0 := by
    rw [hτ0]
    exact ((((((RDr.rf _ _ τ).sf 13 _ (by omega)).sp 72 d 2 (by omega) (Int.le_refl _)).sp 71 d _ (by omega) (Int.le_refl _)).sf 2 _ (by omega)).sf 47 0 (by omega))
  have rds : RDr (fl τ 16 0) d τ (nwF τ0 10 (-1) 0) := nwF_rd rd0 _ _ _ (by omega)
  have es : ERf σ σs := by
    rw [hσs]
    exact ((((ERf.sf _ 184 1 _ (by omega)).tr (ERf.sf _ 221 50 _ (by omega))).tr (ERf.sf _ 222 50 _ (by omega))).tr (ERf.sf _ 223 50 _ (by omega))).tr (ERf.sf _ 224 50 _ (by omega))
  have g1 : ∀ g : Nat, g ≠ 184 → fl σs g 1 = fl σ g 1 := fun g hg => by
    rw [hσs, fl_sf, if_neg (by omega), fl_sf, if_neg (by omega), fl_sf, if_neg (by omega), fl_sf, if_neg (by omega), fl_sfn _ _ _ _ hg]
  have s184 : fl σs 184 1 = fl σ 184 1 + 1 := by
    rw [hσs, fl_sf, if_neg (by omega), fl_sf, if_neg (by omega), fl_sf, if_neg (by omega), fl_sf, if_neg (by omega), fl_sfs]
  have s221 : fl σs 221 50 = bD b := by rw [hσs, fl_sfn _ _ _ _ (by decide), fl_sfn _ _ _ _ (by decide), fl_sfn _ _ _ _ (by decide), fl_sfs]
  have s222 : fl σs 222 50 = fl τ 4 0 + 1 := by rw [hσs, fl_sfn _ _ _ _ (by decide), fl_sfn _ _ _ _ (by decide), fl_sfs]
  have s223 : fl σs 223 50 = fl τ 5 0 - 1 := by rw [hσs, fl_sfn _ _ _ _ (by decide), fl_sfs]
  have s224 : fl σs 224 50 = 0 := by rw [hσs, fl_sfs]
  obtain ⟨τs, hτs⟩ : ∃ τs, τs = nwF τ0 10 (-1) 0 := ⟨_, rfl⟩
  rw [← hτs] at rds
  have q13 : fl τs 13 0 = fl τ 13 0 + 1 := by rw [hτs, nwF_fl _ _ _ _ _ _ (by decide), hτ0, fl_sfn _ _ _ _ (by decide), fl_sfn _ _ _ _ (by decide), fl_se, fl_se, fl_sfs]
  have q41 : fl τs 41 0 = d + 2 := by rw [hτs, nwF_41, o41]; omega
  have q16 : fl τs 16 0 = fl τ 16 0 := by rw [hτs, nwF_fl _ _ _ _ _ _ (by decide), hτ0, fl_sfn _ _ _ _ (by decide), fl_sfn _ _ _ _ (by decide), fl_se, fl_se, fl_sfn _ _ _ _ (by decide)]
  have q2 : fl τs 2 0 = fl τ 4 0 + 1 := by rw [hτs, nwF_fl _ _ _ _ _ _ (by decide), hτ0, fl_sfn _ _ _ _ (by decide), fl_sfs]
  have q47 : fl τs 47 0 = 0 := by rw [hτs, nwF_fl _ _ _ _ _ _ (by decide), hτ0, fl_sfs]
  have q11 : fl τs 11 0 = 0 := by rw [hτs, nwF_fl _ _ _ _ _ _ (by decide), hτ0, fl_sfn _ _ _ _ (by decide), fl_sfn _ _ _ _ (by decide), fl_se, fl_se, fl_sfn _ _ _ _ (by decide)]; exact f0.2
  have qe : ∀ a, el τs a d = el τ0 a d := fun a => by rw [hτs, nwF_el _ _ _ _ _ _ (by omega)]
  have nv := nwF_v τ0 10 (-1) 0
  rw [o41, ← hτs] at nv
  have bAs : ∀ k, bA τs k = bA τ k := fun k => bA_rd rds k
  have p1 : fl τs 1 0 = fl τ 1 0 := rds.1 1 0 (by omega) (by decide) (by decide) (by decide) (by decide)
  refine ⟨sf σ 184 1 (fl σ 184 1 + 1), σs, τs, ?_, ?_, ?_, ⟨h.1, ⟨rt.stl (g1 181 (by decide)) p1 (fun j => es.2 2 j) (fun j => rds.2.1 97 j (by omega) (by omega)), ⟨s223, by omega, by omega, by omega, by omega⟩, by rw [bAs]; exact tx.2.1, fun i x y => by rw [bAs]; exact tx.2.2 i (by omega) (by omega)⟩, by rw [q2, s222], ⟨by rw [g1 182 (by decide)]; exact f0.1, q11⟩, ⟨by rw [s184, q13, h4.1], by omega, by omega⟩, ⟨by rw [s224, q47], by omega, by omega⟩, s221, h.2.2.2.2.2.1.er (TX.rd rds) es, by omega⟩, es, g1, rds, ⟨q13, q41, q16, q2⟩, ⟨nv.1, nv.2.2.1, nv.2.2.2⟩, ?_, ?_, ?_⟩
  · rw [Sc_opens, grd_t (by exact ⟨by omega, by omega⟩), if_pos (by omega)]
  · rw [Tx_start, fl_sfn _ _ _ _ (by decide), fl_sfn _ _ _ _ (by decide), fl_sfn _ _ _ _ (by decide), h5, t1, t2, ← hσs]
  · show r_readArg N τ d = _
    rw [r_readArg, grd_t (by exact ⟨by omega, by omega⟩), hF.2.2, grd_t (by decide), if_neg (by decide), if_neg (by decide), t5, grd_t (by decide), if_pos rfl, r_isOpen, grd_t (by exact ⟨by omega, by omega⟩), if_neg (by omega), Option.bind_some]
    simp only
    rw [grd_t (by decide), if_neg (by decide)]
    simp only [bnd]
    rw [fl_sfn _ _ _ _ (by decide), fl_sfn _ _ _ _ (by decide), ← hτ0, r_begin' ⟨by omega, by omega⟩, Option.bind_some, hτs]
  · rw [qe, hτ0, el_sf, el_sf, el_sen _ _ _ _ (by decide), el_sen _ _ _ _ (by decide), el_sf]; exact hF.2.1
  · rw [qe, hτ0, el_sf, el_sf, el_sen _ _ _ _ (by decide), el_ses]
  · rw [qe, hτ0, el_sf, el_sf, el_ses]
end AT
