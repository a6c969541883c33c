/-! expressions: a text as an argument -/
section AX
variable {N : Nat} {b : Bse} {Xo : Int → Prop} {dl : List (Int × Int)} {rA rF : Sh → St → Option (Sh × St × Int)}
theorem fin_ok {π : Sh} {σ : St} {a c : Int} (h : fl σ 222 50 = a ∧ fl σ 223 50 = c) (hi : i32 a ∧ i32 c) (hf : i32 (fl σ 182 1)) : Tx_finish N π σ = some (if a = c then σ else flS σ 1 a) := by
  rw [Tx_finish, h.1, h.2, grd_t hi.1, grd_t hi.2]
  by_cases e : a = c
  · rw [if_pos e, if_pos e]
  · rw [if_neg e, if_neg e, c_fail hf, Option.bind_some]
set_option maxHeartbeats 2000000 in
theorem arg_text {π : Sh} {σ τ : St} {L : List Stq} {Kn : List Int} {d op : Int} (hN : 30000001 ≤ N) (hc : CTX b dl) (h : XEs b Xo π σ τ L Kn) (h1 : fl σ 185 1 = 4) (hF : FRx τ d 5) (hop : fl τ 13 0 = op ∧ op < 20) (hd : 0 ≤ d ∧ d ≤ 10 * op + 11) (hB : PRE τ L Kn) : ∃ π' σ' τ' o t, Rd_arg_66 N rA rF π σ 1 = some (π', σ', o) ∧ RLp N t τ τ' ∧ EXo N b dl Xo L Kn d 1 0 π σ τ π' σ' τ' o t := by
  have h4 := h.2.2.2.1
  have op0 : 0 ≤ op := by omega
  obtain ⟨σo, σs, τs, a1, a2, a3, a4, a5, a6, a7, ⟨a8, a9, a10, a11⟩, a12, a13⟩ := text_start (N := N) hc h h1 hF ⟨hd.1, by omega⟩ (by omega)
  obtain ⟨b1, b2, b3⟩ := hB
  have tk := h.2.1
  have l1 := tk.lf
  have lt := h.lt hc
  have tl : fl τ 4 0 + 2 ≤ fl τ 5 0 ∧ fl τ 5 0 ≤ fl τ 1 0 ∧ 0 ≤ fl τ 4 0 ∧ fl τ 1 0 ≤ 2000 := by
    have q1 := a4.2.1.2.1
    have q2 := tk.2.2.2.1
    have q3 := tk.1.2.2.1
    have q4 := tk.2.2.2.2.1
    have p1 : fl τs 1 0 = fl τ 1 0 := a7.1 1 0 (by omega) (by decide) (by decide) (by decide) (by decide)
    exact ⟨by omega, by omega, by omega, by omega⟩
  have n56 := h.1.1
  obtain ⟨lv, hlv⟩ : ∃ lv, lv = lf τ := ⟨_, rfl⟩
  have lfe : lv = fl τ 1 0 + 1 - fl τ 4 0 := hlv
  rw [← hlv] at b1 b2 b3 l1
  obtain ⟨π1, σ1, τ1, o, k, q1, q2, q3, q4, q5⟩ := seq_both (rP := Tx_partC N 24) (d := d + 1) (op := op + 1) hN a4 (by omega) (pth_all hN 23 (op + 1) (by omega) (by omega)) ⟨by omega, a12.1, a12.2.1, a12.2.2⟩ ⟨by omega, by omega⟩ (by omega) (by omega)
  obtain ⟨s1, s2, s3⟩ := q3
  have sx : fl σs 23 (bD b) = bX b := by rw [a5.1 23 _ (by omega) (by omega) (by omega)]; exact (h.x hc).1
  rw [sx] at s1
  have e1 : EFt (bX b) (bY b) π σ π1 σ1 := (EFt.rd a5 ⟨lt.1.1, lt.1.2.2.1⟩).tr (EFt.xt s1 ⟨lt.1.2.2.2.1, fun e => lt.1.2.2.2.2 e.symm, lt.1.2.2.1⟩)
  have r1 : RDr (fl τ 16 0) d τ τ1 := a7.tr s2 (by omega) (by omega)
  have x1 : ∀ g : Nat, 185 ≤ g ∧ g ≤ 190 → fl σ1 g 1 = fl σ g 1 := fun g hg => by
    rw [s1.2.1 g 1 (by omega) (by omega) (by omega) (by omega), a6 g (by omega)]
  have k187 : fl σ1 187 1 = fl τ 5 0 := by rw [x1 187 (by omega)]; exact tk.2.2.1
  have y1 : fl σ1 1 (bY b) = fl σs 1 (bY b) := s1.2.1 1 _ (by omega) (by omega) (by omega) (by omega)
  have sy : fl σs 1 (bX b) = fl σ 1 (bX b) ∧ fl σs 1 (bY b) = fl σ 1 (bY b) := ⟨a5.1 1 _ (by omega) (by omega) (by omega), a5.1 1 _ (by omega) (by omega) (by omega)⟩
  have ht1 : fl τ1 1 0 = fl τ 1 0 := r1.1 1 0 (by omega) (by decide) (by decide) (by decide) (by decide)
  have d144 : fl σ1 144 44 = bD b := by
    rw [s1.2.1 144 44 (by omega) (by omega) (by omega) (by omega), a5.1 144 44 (by omega) (by omega) (by omega)]; exact h.2.2.2.2.1
  have c72 : el τ1 74 d = 5 ∧ el τ1 72 d = 2 ∧ el τ1 71 d = fl τ 5 0 - 1 := ⟨by rw [s2.2.2.2 74 d (by omega) (by omega) (by omega)]; exact a13.1, by rw [s2.2.2.2 72 d (by omega) (by omega) (by omega)]; exact a13.2.1, by rw [s2.2.2.2 71 d (by omega) (by omega) (by omega)]; exact a13.2.2⟩
  have run : ∀ σ2 σ3, Tx_finish N π1 σ1 = some σ2 → Sc_advance N π1 σ2 = some σ3 → Rd_arg_66 N rA rF π σ 1 = some (π1, sf σ3 184 1 (fl σ3 184 1 - 1), o) := fun σ2 σ3 z1 z2 => by
    rw [Rd_arg_66, a1, Option.bind_some]
    simp only
    rw [grd_t (by decide), if_neg (by decide), grd_t (by decide), if_neg (by decide), a2, Option.bind_some, q1, Option.bind_some]
    simp only
    rw [Rd_arg_125, z1, Option.bind_some, z2, Option.bind_some, Rd_arg_161]
  have turn1 : RLp N 1 τ τs := RLp.one hF.1 ⟨hd.1, by omega⟩ h.2.2.1.2 ⟨hF.2.1, by omega, by omega⟩ a3
  rcases s3 with ⟨f1, ⟨L', f2, f3⟩, f4⟩ | ⟨seg, n, g1, g2, g3, g4, g5, g6, g7, g8, g9, g10, g11⟩
  · -- a fault in the text
    have rt1 := f2.2.1.1
    have xb := f2.2.1.2.1
    have fz : fl σ1 182 1 ≠ 0 ∧ i32 (fl σ1 182 1) := by
      have := f1.1
      have := f1.2.2
      exact ⟨by omega, ⟨by omega, by omega⟩⟩
    have fin : Tx_finish N π1 σ1 = some σ1 := by
      rw [fin_ok (a := fl σ1 222 50) (c := fl σ1 223 50) ⟨rfl, rfl⟩ ⟨⟨by omega, by omega⟩, ⟨by omega, by omega⟩⟩ fz.2]
      by_cases e : fl σ1 222 50 = fl σ1 223 50
      · rw [if_pos e]
      · rw [if_neg e, flS, if_neg fz.1]
    obtain ⟨σ3, τ3, w1, w2, w3, w4, w5, -⟩ := both_look (N := N) (π := π1) (by omega) rt1 (k := fl τ 5 0) (by omega) (by omega)
    have adv : Sc_advance N π1 σ1 = some σ3 := by rw [Sc_advance, k187]; exact w1
    have er : ERf σ1 (sf σ3 184 1 (fl σ3 184 1 - 1)) := (ERf.sc w3).tr (ERf.sf _ 184 1 _ (by omega))
    refine ⟨π1, _, τ1, o, 1 + k, run _ _ fin adv, turn1.tr q2, e1.tr (EFt.rd er ⟨lt.1.1, lt.1.2.2.1⟩), r1, Or.inl ⟨⟨f2.1, ⟨τ3, w5.cg (fun g hg => by rw [fl_sfn _ _ _ _ (by omega)]) (fun _ => rfl) (fun _ _ => rfl) (fun _ => rfl)⟩, ⟨?_, ?_, f1.2.2⟩, ?_, L', Kn, f2.2.2.2.er (TX.rf _) er, ?_, by omega⟩, ?_, ?_⟩⟩
    · rw [fl_sfn _ _ _ _ (by decide), w3.1 182 1 (by omega)]; exact f1.1
    · rw [fl_sfn _ _ _ _ (by decide), w3.1 183 1 (by omega)]; exact f1.2.1
    · rw [fl_sf, if_neg (by omega), w3.1 144 44 (by omega)]; exact d144
    · omega
    · have rm := RmE.xt (y := bY b) f4 y1 s1.1 (by rw [sy.2]; exact lt.2.1.2)
      rw [sx] at rm
      have n1 := s1.1.1
      refine (((RmE.er (A := 0) (B := 0) a5 ⟨by omega, by omega⟩ lt.2.1 ⟨by omega, by omega⟩).tr rm).tr (RmE.er (A := 0) (B := 0) er ⟨by omega, by omega⟩ ?_ ⟨by omega, by omega⟩)).mono (by omega) (by omega)
      have bb := f2.2.2.2.b
      have e23 : fl σ1 23 (bD b) = bX b ∧ fl σ1 24 (bD b) = bY b := by
        have w := h.x hc
        have cD := hc.2.1
        rw [e1.d ⟨by omega, by omega⟩ 23 (by omega), e1.d ⟨by omega, by omega⟩ 24 (by omega)]
        exact w
      rw [e23.1, e23.2] at bb
      exact ⟨bb.2.2.2.1, bb.2.2.2.2⟩
    · have k2 : (k : Int) ≤ 8 * (fl τ 5 0 - 1 + 1 - fl τs 2 0) + 8 * (21 - (op + 1)) + 5 := q5
      rw [← hlv]
      omega
  · obtain ⟨j1, j2, j3, j4, j5, j6, j7, j8, j9⟩ := id g1
    have rt1 := j2.1
    have xb := j2.2.1
    have x222 := j3
    have f1z : fl σ1 182 1 = 0 := j4.1
    have at2 : fl τ1 2 0 = fl σ1 222 50 := j3
    have c34 := j2.2.2.1
    have cin := j2.2.2.2
    have byte := rr_byteAt (N := N) (k := fl τ1 2 0) rt1 ⟨by omega, by omega⟩
    have bi : i32 (bA τ1 (fl τ1 2 0)) := by
      by_cases e : fl τ1 2 0 = fl τ 5 0 - 1
      · rw [e, c34]; decide
      · have := cin (fl τ1 2 0) (by omega) (by omega)
        exact ⟨by omega, by omega⟩
    have e41 : fl τ1 41 0 = d + 1 := g2
    by_cases cE : fl τ1 2 0 = fl τ 5 0 - 1
    · -- the text ends where it should
      have fin : Tx_finish N π1 σ1 = some σ1 := by
        rw [fin_ok (a := fl σ1 222 50) (c := fl σ1 223 50) ⟨rfl, rfl⟩ ⟨⟨by omega, by omega⟩, ⟨by omega, by omega⟩⟩ (by rw [f1z]; decide), if_pos (by omega)]
      obtain ⟨τ2, hτ2⟩ : ∃ τ2, τ2 = sf τ1 13 0 (fl τ1 13 0 - 1) := ⟨_, rfl⟩
      have rt2 : RTp σ1 τ2 := rt1.stl rfl (by rw [hτ2, fl_sfn _ _ _ _ (by decide)]) (fun _ => rfl) (fun j => by rw [hτ2, el_sf])
      have t21 : fl τ2 1 0 = fl τ 1 0 := by rw [hτ2, fl_sfn _ _ _ _ (by decide)]; exact ht1
      obtain ⟨σ3, τ3, w1, w2, w3, w4, w5, w6, -⟩ := both_look (N := N) (π := π1) (by omega) rt2 (k := fl τ 5 0) (by omega) (by omega)
      have adv : Sc_advance N π1 σ1 = some σ3 := by rw [Sc_advance, k187]; exact w1
      obtain ⟨τ4, hτ4⟩ : ∃ τ4, τ4 = sf (sf τ3 46 0 (fl τ3 46 0)) 41 0 (fl τ3 41 0 - 1) := ⟨_, rfl⟩
      obtain ⟨σ4, hσ4⟩ : ∃ σ4, σ4 = sf σ3 184 1 (fl σ3 184 1 - 1) := ⟨_, rfl⟩
      have er : ERf σ1 σ4 := by rw [hσ4]; exact (ERf.sc w3).tr (ERf.sf _ 184 1 _ (by omega))
      have t3f : ∀ g : Nat, ¬ (3 ≤ g ∧ g ≤ 10) → g ≠ 13 → fl τ3 g 0 = fl τ1 g 0 := fun g x y => by rw [w4.1 g 0 x, hτ2, fl_sfn _ _ _ _ y]
      have t3e : ∀ a i, el τ4 a i = el τ1 a i := fun a i => by rw [hτ4, el_sf, el_sf, w4.2, hτ2, el_sf]
      have t313 : fl τ3 13 0 = fl τ 13 0 := by rw [w4.1 13 0 (by omega), hτ2, fl_sfs, g4]; omega
      have t4f : ∀ g : Nat, g ≠ 46 → g ≠ 41 → fl τ4 g 0 = fl τ3 g 0 := fun g x y => by rw [hτ4, fl_sfn _ _ _ _ y, fl_sfn _ _ _ _ x]
      have t46 : fl τ4 46 0 = n := by rw [hτ4, fl_sfn _ _ _ _ (by decide), fl_sfs, t3f 46 (by omega) (by decide)]; exact g3
      have t41 : fl τ4 41 0 = d := by rw [hτ4, fl_sfs, t3f 41 (by omega) (by decide), e41]; omega
      have t16 : fl τ4 16 0 = fl τ1 16 0 := by rw [t4f 16 (by decide) (by decide), t3f 16 (by omega) (by decide)]
      have r4 : RDr (fl τ 16 0) d τ τ4 := by
        rw [hτ4]
        exact ((((by rw [hτ2]; exact r1.sf 13 _ (by omega) : RDr (fl τ 16 0) d τ τ2).tr (RDr.sc (lo := fl τ 16 0) (d := d) w4) (Int.le_refl _) (Int.le_refl _)).sf 46 _ (by omega)).sf 41 _ (by omega))
      have rr : RDr (fl τ 16 0) d τ1 τ4 := by
        rw [hτ4]
        exact ((((by rw [hτ2]; exact (RDr.rf _ _ τ1).sf 13 _ (by omega) : RDr (fl τ 16 0) d τ1 τ2).tr (RDr.sc (lo := fl τ 16 0) (d := d) w4) (Int.le_refl _) (Int.le_refl _)).sf 46 _ (by omega)).sf 41 _ (by omega))
      have step2 : rdK N 5 τ1 d = some τ4 := by
        show r_readArg N τ1 d = _
        rw [r_readArg, grd_t (by exact ⟨by omega, by omega⟩), c72.2.1, grd_t (by decide), if_neg (by decide), if_pos rfl, byte, Option.bind_some]
        simp only
        rw [grd_t bi, cE, c34, if_pos rfl, grd_t (by exact ⟨by omega, by omega⟩), c72.2.2, grd_t (by exact ⟨by omega, by omega⟩), if_pos rfl]
        simp only [bnd]
        have e5 : fl τ 5 0 - 1 + 1 = fl τ 5 0 := by omega
        rw [e5, ← hτ2, w2, Option.bind_some, r_finish', Option.bind_some, hτ4]
      have tk4 : TKr σ4 τ4 := w5.cg (fun g hg => by rw [hσ4, fl_sfn _ _ _ _ (by omega)]) (fun _ => by rw [hσ4]; rfl) (fun g hg => t4f g (by omega) (by omega)) (fun j => by rw [hτ4]; rfl)
      have l4 : lf τ4 + (fl τ 5 0 - fl τ 4 0) ≤ lv := by
        have q1 : fl τ4 1 0 = fl τ 1 0 := r4.1 1 0 (by omega) (by decide) (by decide) (by decide) (by decide)
        have q2 : fl τ4 4 0 = fl τ3 4 0 := t4f 4 (by decide) (by decide)
        unfold lf
        omega
      have v16 := h.2.2.2.2.2.2.2.2.1
      have x4 : XEs b Xo π1 σ4 τ4 (L ++ seg) Kn := by
        refine ⟨j1, tk4, ⟨by rw [hσ4, fl_sfn _ _ _ _ (by decide), w3.1 182 1 (by omega)]; exact f1z, by rw [t4f 11 (by decide) (by decide), t3f 11 (by omega) (by decide)]; exact j4.2⟩, ?_, ?_, j8.er (TX.rd rr) er, (h.2.2.2.2.2.2.1.tr e1).tr (EFt.rd er ⟨lt.1.1, lt.1.2.2.1⟩), h.2.2.2.2.2.2.2.1.tr r4 (by omega) hd.1, by omega, h.2.2.2.2.2.2.2.2.2⟩
        · have w184 : fl σ4 184 1 = fl σ1 184 1 - 1 := by rw [hσ4, fl_sfs, w3.1 184 1 (by omega)]
          rw [w184, t4f 13 (by decide) (by decide), t313]
          omega
        · rw [er.1 144 44 (by omega) (by omega) (by omega)]; exact d144
      have kb : (k : Int) ≤ 8 * (fl τ1 2 0 - fl τs 2 0) + 1 := q4 j4.2
      refine ⟨π1, σ4, τ4, o, 1 + k + 1, by rw [hσ4]; exact run _ _ fin adv, (turn1.tr q2).tr (RLp.one e41 ⟨hd.1, by omega⟩ j4.2 ⟨c72.1, by omega, by omega⟩ step2), e1.tr (EFt.rd er ⟨lt.1.1, lt.1.2.2.1⟩), r4, Or.inr ⟨seg, [], n, 0, 0, (12 * (fl τ1 2 0 - fl τs 2 0) + 3).toNat, by rw [List.append_nil]; exact x4, ⟨t41, t46, by rw [t4f 13 (by decide) (by decide)]; exact t313⟩, ⟨by omega, by omega⟩, by rw [t3e, g6.1]; decide, ?_, fun y hy h9 => absurd h9 (g7.1 y hy), ?_, ?_, ?_⟩⟩
      · intro x y hx
        have hl := HLv_b hx
        rw [List.append_nil]
        refine (g7.2 (UDl N x) (12 - x) (bV b) Kn y).mono (Nat.le_refl _) (by omega) (by omega) (fun a i _ _ _ _ => ?_) (List.prefix_refl _) (by omega) (by omega) (by decide) (Int.le_refl _) (fun _ hx => hx) (fun _ hx => hx)
        rw [el_se, el_se]
        by_cases c : a = 85 ∧ i = n
        · rw [if_pos c, if_pos c]
        · rw [if_neg c, if_neg c, t3e]
      · rw [EBg, ← hlv]
        refine ⟨⟨by omega, by omega⟩, ⟨by omega, by omega⟩, by omega, by omega, by omega, by omega⟩
      · rw [← hlv]
        simp only [List.length_nil]
        exact ⟨by omega, by omega⟩
      · have rm := RmE.xt (y := bY b) g11 y1 s1.1 (by rw [sy.2]; exact lt.2.1.2)
        rw [sx] at rm
        rw [← hlv]
        refine (((RmE.er (A := 0) (B := 0) a5 ⟨by omega, by omega⟩ lt.2.1 ⟨by omega, by omega⟩).tr rm).tr (RmE.er (A := 0) (B := 0) er ⟨by omega, by omega⟩ ?_ ⟨by omega, by omega⟩)).mono (by omega) (by omega)
        have bb := j8.b
        have e23 : fl σ1 23 (bD b) = bX b ∧ fl σ1 24 (bD b) = bY b := by
          have w := h.x hc
          have cD := hc.2.1
          rw [e1.d ⟨by omega, by omega⟩ 23 (by omega), e1.d ⟨by omega, by omega⟩ 24 (by omega)]
          exact w
        rw [e23.1, e23.2] at bb
        exact ⟨bb.2.2.2.1, bb.2.2.2.2⟩
    · -- something is left
      have nb : bA τ1 (fl τ1 2 0) ≠ 34 := (cin (fl τ1 2 0) (by omega) (by omega)).2.2
      obtain ⟨σ2, hσ2⟩ : ∃ σ2, σ2 = sf (sf σ1 182 1 1) 183 1 (fl τ1 2 0) := ⟨_, rfl⟩
      have fin : Tx_finish N π1 σ1 = some σ2 := by
        rw [fin_ok (a := fl σ1 222 50) (c := fl σ1 223 50) ⟨rfl, rfl⟩ ⟨⟨by omega, by omega⟩, ⟨by omega, by omega⟩⟩ (by rw [f1z]; decide), if_neg (by omega), flS, if_pos f1z, hσ2, at2]
      have rt2 : RTp σ2 τ1 := rt1.stl (by rw [hσ2, fl_sfn _ _ _ _ (by decide), fl_sfn _ _ _ _ (by decide)]) rfl (fun _ => by rw [hσ2]; rfl) (fun _ => rfl)
      obtain ⟨σ3, τ3, w1, w2, w3, w4, w5, -⟩ := both_look (N := N) (π := π1) (by omega) rt2 (k := fl τ 5 0) (by omega) (by omega)
      have adv : Sc_advance N π1 σ2 = some σ3 := by
        rw [Sc_advance, hσ2, fl_sfn _ _ _ _ (by decide), fl_sfn _ _ _ _ (by decide), k187, ← hσ2]; exact w1
      have er : ERf σ1 (sf σ3 184 1 (fl σ3 184 1 - 1)) := by
        have w : ERf σ1 σ2 := by rw [hσ2]; exact (ERf.sf _ 182 1 _ (by omega)).tr (ERf.sf _ 183 1 _ (by omega))
        exact (w.tr (ERf.sc w3)).tr (ERf.sf _ 184 1 _ (by omega))
      have step2 : rdK N 5 τ1 d = some (sf (sf τ1 11 0 1) 12 0 (fl τ1 2 0)) := by
        show r_readArg N τ1 d = _
        rw [r_readArg, grd_t (by exact ⟨by omega, by omega⟩), c72.2.1, grd_t (by decide), if_neg (by decide), if_pos rfl, byte, Option.bind_some]
        simp only
        rw [grd_t bi, if_neg nb, r_readArg_90, r_fail0 j4.2, Option.bind_some]
      have r4 : RDr (fl τ 16 0) d τ (sf (sf τ1 11 0 1) 12 0 (fl τ1 2 0)) := (r1.sf 11 1 (by omega)).sf 12 _ (by omega)
      have kb : (k : Int) ≤ 8 * (fl τ1 2 0 - fl τs 2 0) + 1 := q4 j4.2
      refine ⟨π1, _, _, o, 1 + k + 1, run _ _ fin adv, (turn1.tr q2).tr (RLp.one e41 ⟨hd.1, by omega⟩ j4.2 ⟨c72.1, by omega, by omega⟩ step2), e1.tr (EFt.rd er ⟨lt.1.1, lt.1.2.2.1⟩), r4, Or.inl ⟨⟨j1, ⟨τ3, w5.cg (fun g hg => by rw [fl_sfn _ _ _ _ (by omega)]) (fun _ => rfl) (fun _ _ => rfl) (fun _ => rfl)⟩, ⟨?_, ?_, ?_⟩, ?_, L ++ seg, Kn, j8.er (TX.rd ((((RDr.rf (fl τ 16 0) d τ1).sf 11 1 (by omega)).sf 12 _ (by omega)))) er, ?_, ?_⟩, ?_, ?_⟩⟩
      · rw [fl_sfn _ _ _ _ (by decide), w3.1 182 1 (by omega), hσ2, fl_sfn _ _ _ _ (by decide), fl_sfs, fl_sfn _ _ _ _ (by decide), fl_sfs]
      · rw [fl_sfn _ _ _ _ (by decide), w3.1 183 1 (by omega), hσ2, fl_sfs, fl_sfs]
      · rw [fl_sfn _ _ _ _ (by decide), fl_sfs]; decide
      · rw [er.1 144 44 (by omega) (by omega) (by omega)]; exact d144
      · rw [List.length_append, ← hlv]; omega
      · rw [← hlv]; omega
      · have rm := RmE.xt (y := bY b) g11 y1 s1.1 (by rw [sy.2]; exact lt.2.1.2)
        rw [sx] at rm
        rw [← hlv]
        refine (((RmE.er (A := 0) (B := 0) a5 ⟨by omega, by omega⟩ lt.2.1 ⟨by omega, by omega⟩).tr rm).tr (RmE.er (A := 0) (B := 0) er ⟨by omega, by omega⟩ ?_ ⟨by omega, by omega⟩)).mono (by omega) (by omega)
        have bb := j8.b
        have e23 : fl σ1 23 (bD b) = bX b ∧ fl σ1 24 (bD b) = bY b := by
          have w := h.x hc
          have cD := hc.2.1
          rw [e1.d ⟨by omega, by omega⟩ 23 (by omega), e1.d ⟨by omega, by omega⟩ 24 (by omega)]
          exact w
        rw [e23.1, e23.2] at bb
        exact ⟨bb.2.2.2.1, bb.2.2.2.2⟩
      · rw [← hlv]; omega
end AX
