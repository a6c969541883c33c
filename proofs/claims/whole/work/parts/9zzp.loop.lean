/-! the steps of a row of a text, both -/
section LP
variable {N : Nat} {Xo : Int → Prop}
theorem XSb.bd {π : Sh} {σ τ : St} {D P st cl : Int} {L : List Stq} {Kn : List Int} (h : XSb Xo π σ τ D P L Kn st cl) : BDy Xo π σ τ D P L Kn := h.1.2.2.2.2.2.2.2.1.mv (HP.rf _ _) (TX.rd (lo := 0) (d := 0) ⟨fun f i a _ _ _ _ => (fl_sfn _ _ _ _ (by omega)).symm, fun _ _ _ _ => rfl, fun _ _ _ _ _ => rfl, fun _ _ _ _ _ => rfl⟩) ⟨rfl, rfl, rfl⟩ (fun _ _ _ _ => rfl) (fun _ _ _ _ => rfl)
theorem XC.xf {π : Sh} {σ σ' τ τ' : St} {D P st cl lo d : Int} {L : List Stq} {Kn : List Int} (h : XC Xo π σ τ D P L Kn st cl) (hc : XFc σ σ') (hr : RDr lo d τ τ') (hx : XB σ' τ' st cl) : XC Xo π σ' τ' D P L Kn st cl := ⟨h.1, hx, by rw [hc.1 221 50 (by omega) (by omega)]; exact h.2.2.1, h.2.2.2.st (TX.rd hr) (fun f i y z => hc.1 f i (by omega) (by omega)) hc.2⟩
theorem RWs.xf {π : Sh} {σ σ' : St} {n0 s kd place b lw : Int} {ops : List Kid} (h : RWs π σ n0 s kd place b ops lw) (hc : XFc σ σ') : RWs π σ' n0 s kd place b ops lw ∧ ∀ f : Nat, fl σ' f s = fl σ f s := by
  have n6 := h.2.2.2.2.2.1
  have s2 := h.1.2.1
  have f : ∀ f : Nat, fl σ' f s = fl σ f s := fun f => hc.1 f s (by omega) (by omega)
  exact ⟨h.cg (ext.rf _) (fun g _ _ => f g) (fun a j _ => hc.2 a j), f⟩
def HDf (τ : St) (d r : Int) : Prop := fl τ 41 0 = d + 2 ∧ el τ 74 d = 10 ∧ el τ 72 d = 1 ∧ el τ 73 d = r ∧ el τ 74 (d + 1) = 11 ∧ el τ 72 (d + 1) = 0
theorem RK.lst {τ : St} {lo hi P j r : Int} {l : List Kdr} (h : RK N τ lo hi P j r l) (h0 : 0 ≤ lo ∧ hi ≤ 32768) : (el τ 87 r = -1 ∨ inb (el τ 86 r) 32768) ∧ i32 (el τ 87 r) ∧ (el τ 87 r = -1 ∨ lo ≤ el τ 86 r) := by
  obtain ⟨h1, h2, h3, h4⟩ := h
  rcases h4 with h4 | ⟨x, x1, x2⟩
  · subst h4
    have e : el τ 87 r = -1 := h2
    exact ⟨Or.inl e, by rw [e]; decide, Or.inl e⟩
  · have m := h1.mem x (List.mem_of_getLast? x1)
    refine ⟨Or.inr ?_, ?_, Or.inr (by omega)⟩
    · rw [x2]; exact ⟨by omega, by omega⟩
    · cases l with
      | nil => simp at x1
      | cons y ys =>
        have e := h2.1.1
        have := h2.1.2.1.1
        rw [e]; exact ⟨by omega, by omega⟩
set_option maxHeartbeats 16000000 in
theorem steps_one {D P st cl r lo d at0 m0 kd kR place s op : Int} {L0 : List Stq} {Kn : List Int} {π0 : Sh} {σ0 τ0 : St} {rP : Sh → St → Option (Sh × St × Int)} (hN : 30000001 ≤ N) (hop : fl τ0 13 0 = op) (hPT : PTH N D P Kn st cl rP op) (hd : 0 ≤ d ∧ d + 2 ≤ 10 * op + 20) (hL : (L0.length : Int) + 2 * (cl + 1 - at0) + 4 * (21 - op) ≤ 19000) (hM : m0 + 3 * (cl + 1 - at0) + 8 * (21 - op) ≤ 32768) (h0 : 0 ≤ at0) (hn0 : 56 ≤ nn π0) (hx0 : fl σ0 23 D < nn π0 ∧ D < nn π0) {m n : Nat} (ih : ∀ (π : Sh) (σ τ : St) (l : List Kdr) (lw : Int), cl - fl τ 2 0 < m → m < n → SCo Xo N D P L0 Kn st cl r lo d at0 m0 kd kR place s π0 σ0 τ0 π σ τ l lw → HDf τ d r → ∃ π' σ' τ' k, Tx_steps_8 N rP n π σ s 1 l.length = some (π', σ') ∧ RLp N k τ τ' ∧ STo Xo N D P L0 Kn st cl r lo d at0 m0 kd kR place s π0 σ0 τ0 π' σ' τ' ∧ (fl τ' 11 0 = 0 → (k : Int) ≤ 8 * (fl τ' 2 0 - fl τ 2 0)) ∧ (k : Int) ≤ 8 * (cl + 1 - fl τ 2 0) + 8 * (21 - op) + 4) {π : Sh} {σ τ : St} {l : List Kdr} {lw : Int} (hm : cl - fl τ 2 0 < ((m + 1 : Nat) : Int)) (hmn : m + 1 < n + 1) (hc : SCo Xo N D P L0 Kn st cl r lo d at0 m0 kd kR place s π0 σ0 τ0 π σ τ l lw) (hF : HDf τ d r) : ∃ π' σ' τ' k, Tx_steps_8 N rP (n + 1) π σ s 1 l.length = some (π', σ') ∧ RLp N k τ τ' ∧ STo Xo N D P L0 Kn st cl r lo d at0 m0 kd kR place s π0 σ0 τ0 π' σ' τ' ∧ (fl τ' 11 0 = 0 → (k : Int) ≤ 8 * (fl τ' 2 0 - fl τ 2 0)) ∧ (k : Int) ≤ 8 * (cl + 1 - fl τ 2 0) + 8 * (21 - op) + 4 := by
  obtain ⟨c1, c2, c3, c4, c5, c6, c7, c7', c8, c9⟩ := id hc
  obtain ⟨x1, x2, x3, ⟨x4, x4'⟩, x5, x6, x7, x8, x9⟩ := id c1
  obtain ⟨a0, ⟨b1, b2, b3, b4, b5⟩, e0, d0⟩ := id x2
  have size := a0.2.2.1
  obtain ⟨hF1, hF2, hF3, hF4, hF5, hF6⟩ := hF
  unfold SBg at c9
  rw [hop] at c9
  obtain ⟨g1, g2, g3, g4, g5, g6, g7, g8⟩ := c9
  have hop' : 0 ≤ op ∧ op ≤ 20 := by rw [← hop, ← c6]; exact x5.2
  have N3 : 3000 ≤ N := by omega
  have i13 : fl τ 13 0 = op := by rw [c6, hop]
  obtain ⟨at1, hat1⟩ : ∃ at1, fl τ 2 0 = at1 := ⟨_, rfl⟩
  obtain ⟨h0', hh0⟩ : ∃ h0', fl τ 16 0 = h0' := ⟨_, rfl⟩
  rw [hat1] at g1 g2 g3 g4 g5 g6 g7 hm
  rw [hh0] at g2 c7 c3
  have at1s : fl σ 222 50 = at1 := by rw [← x3]; exact hat1
  rw [at1s] at b3 b4
  have lenI : ((L0 ++ sgs l).length : Int) = L0.length + (sgs l).length := by rw [List.length_append]; omega
  -- a frame for the part
  obtain ⟨τ1, hτ1⟩ : ∃ τ1, τ1 = nwF (se τ 72 (d + 1) 1) 12 (-1) 0 := ⟨_, rfl⟩
  have e41 : fl (se τ 72 (d + 1) 1) 41 0 = d + 2 := hF1
  have r1 : RLp N 1 τ τ1 := by
    refine RLp.one (d := d + 1) (K := 11) (by omega) ⟨by omega, by omega⟩ x4' ⟨hF5, by decide, by decide⟩ ?_
    have e : rdK N 11 τ (d + 1) = r_readStep N τ (d + 1) := by unfold rdK; simp
    rw [e, r_readStep, grd_t (by exact ⟨by omega, by omega⟩), hF6, grd_t (by decide), if_pos rfl, bnd, r_begin' (by rw [e41]; omega), Option.bind_some, hτ1]
  have f1 : ∀ (f : Nat) (i : Int), f ≠ 41 → fl τ1 f i = fl τ f i := fun f i hf => by rw [hτ1, nwF_fl _ _ _ _ _ _ hf]; rfl
  have f41 : fl τ1 41 0 = d + 3 := by rw [hτ1, nwF_41, e41]; omega
  have el1 : ∀ a i : Int, ¬ (71 ≤ a ∧ a ≤ 74 ∧ i = d + 2) → ¬ (a = 72 ∧ i = d + 1) → el τ1 a i = el τ a i := fun a i y z => by rw [hτ1, nwF_el _ _ _ _ _ _ (by rw [e41]; exact y), el_se, if_neg z]
  have v1 := nwF_v (se τ 72 (d + 1) 1) 12 (-1) 0
  rw [← hτ1, e41] at v1
  have e72 : el τ1 72 (d + 1) = 1 := by rw [hτ1, nwF_el _ _ _ _ _ _ (by rw [e41]; omega), el_ses]
  have rd1 : RDr h0' (d + 1) τ τ1 := ⟨fun f i _ _ c _ _ => f1 f i c, fun a j x _ => el1 a j (by omega) (by omega), fun a j x y _ => el1 a j (by omega) (by omega), fun a j x y z => el1 a j (by omega) (by omega)⟩
  have xs1 : XS (XR Xo σ s) π σ τ1 D P (L0 ++ sgs l) Kn st cl := c1.rd rd1 ⟨f1 2 0 (by decide), f1 11 0 (by decide), f1 13 0 (by decide), f1 47 0 (by decide), by rw [f1 16 0 (by decide)]; exact x9⟩
  have a21 : fl τ1 2 0 = at1 := by rw [f1 2 0 (by decide)]; exact hat1
  have a161 : fl τ1 16 0 = h0' := by rw [f1 16 0 (by decide)]; exact hh0
  obtain ⟨π2, σ2, τ2, o, k2, p1, p2, ⟨p6, p7, p8⟩, p4, p5⟩ := hPT (XR Xo σ s) π σ τ1 (L0 ++ sgs l) (d + 2) xs1 (by rw [f1 13 0 (by decide)]; exact i13) ⟨by rw [f41]; omega, ⟨by omega, by omega⟩, v1.1, v1.2.2.1, v1.2.2.2⟩ (by omega) (by rw [a21]; omega) (by rw [a21, a161]; omega)
  have i131 : fl τ1 13 0 = op := by rw [f1 13 0 (by decide)]; exact i13
  rw [a161] at p7 p8
  rw [a21, i131] at p8
  rw [a21] at p4 p5
  obtain ⟨w1, w2⟩ := c2.ft x8 p6
  have xr2 : XR Xo σ2 s = XR Xo σ s := XR.eq (fun f _ _ => w2 f)
  have ft2 : XFt (fl σ0 23 D) π0 σ0 π2 σ2 := c4.tr (by rw [← c8]; exact p6)
  have d2 : fl σ2 23 D = fl σ0 23 D := by rw [p6.d23 x8, c8]
  have rd02 : RDr lo d τ0 τ2 := (c5.tr rd1 (by omega) (by omega)).tr p7 (by omega) (by omega)
  have nge2 := p6.1.1
  have nge0 := c4.1.1
  have s56 : 56 ≤ s := by have := c2.1.2.1; omega
  have cls : Tx_steps_8 N rP (n + 1) π σ s 1 l.length = Tx_steps_23 N rP (Tx_steps_8 N rP n) π2 σ2 s l.length o := by
    rw [Tx_steps_8, grd_t (by exact ⟨by omega, by omega⟩), if_pos (by omega), grd_t (by decide), if_neg (by decide), p1, Option.bind_some]
  have lenO : (opz l).length = l.length := opz_len l
  -- a fault
  have finF : ∀ (π3 : Sh) (σ3 τ3 : St) (o' w y : Int) (k : Nat) (L' : List Stq), Tx_steps_8 N rP (n + 1) π σ s 1 l.length = Option.bind (Sp_giveWeighted N π3 σ3 s o' w y) (fun r25 => grd (ob π3 s 10) (Tx_steps_73 N rP (Tx_steps_8 N rP n) r25.1 r25.2 s l.length)) → RLp N k τ τ3 → (k : Int) ≤ 8 * (cl + 1 - at1) + 8 * (21 - op) + 4 → FLT σ3 τ3 → XC (XR Xo σ3 s) π3 σ3 τ3 D P L' Kn st cl → (L'.length : Int) ≤ L0.length + 2 * (cl + 1 - at0) → RWs π3 σ3 (nn π0) s kd place 0 (opz l) lw → XFt (fl σ0 23 D) π0 σ0 π3 σ3 → RDr lo d τ0 τ3 → (nn π3 : Int) ≤ nn π0 + 12 * (cl + 1 - at0) + 20 * (21 - op) + 4 → (sw π3 : Int) + 4 * cpc π0 σ0 (fl σ0 23 D) + 50 * l.length ≤ sw π0 + 4 * cpc π3 σ3 (fl σ0 23 D) + 100 * (cl + 1 - at0) + 200 * (21 - op) + 16 + 2 * ln π3 (fl σ3 210 s) + 6 * lw → ∃ π' σ' τ' k, Tx_steps_8 N rP (n + 1) π σ s 1 l.length = some (π', σ') ∧ RLp N k τ τ' ∧ STo Xo N D P L0 Kn st cl r lo d at0 m0 kd kR place s π0 σ0 τ0 π' σ' τ' ∧ (fl τ' 11 0 = 0 → (k : Int) ≤ 8 * (fl τ' 2 0 - fl τ 2 0)) ∧ (k : Int) ≤ 8 * (cl + 1 - fl τ 2 0) + 8 * (21 - op) + 4 := by
    intro π3 σ3 τ3 o' w y k L' q1 q2 q3 q4 q5 q6 q7 q8 q9 q10 q11
    have ng3 := q8.1.1
    obtain ⟨n', rfl⟩ : ∃ n', n = n' + 1 := ⟨n - 1, by omega⟩
    obtain ⟨π4, σ4, π', σ', lw', t1, t2, t3, t4, t5, t6, t7, t8, t9, t10, t11, t12⟩ := steps_tail (N := N) (o := o') (w := w) (y := y) (x3 := l.length) (rP := rP) (n := n') N3 q5 q4 q7 (by omega) (by omega) ⟨by omega, by omega⟩
    refine ⟨π', σ', τ3, k, by rw [q1, t1, Option.bind_some, grd_t t2, t3], q2, Or.inl ⟨t4, ⟨L', t5, q6⟩, ⟨_, _, t6⟩, ⟨q8.1.tr t7, fun f i a b c e => ?_, fun a j ha hx => ?_, ?_⟩, q9, ⟨by rw [hop]; omega, ?_⟩⟩, fun h => ?_, by rw [hat1]; exact q3⟩
    · rw [t8 f i a (by omega)]; exact q8.2.1 f i a b c e
    · rw [t9 a j ha]; exact q8.2.2.1 a j ha hx
    · rw [t8 1 _ hx0.1 (by omega)]; exact q8.2.2.2
    · have k1 : fl σ' 1 (fl σ0 23 D) = fl σ3 1 (fl σ0 23 D) := t8 1 _ hx0.1 (by omega)
      have cp : cpc π' σ' (fl σ0 23 D) = cpc π3 σ3 (fl σ0 23 D) := by
        unfold cpc
        rw [k1]
        by_cases cc : fl σ3 1 (fl σ0 23 D) < 0
        · rw [if_pos cc, if_pos cc]
        · rw [if_neg cc, if_neg cc]
          have lt3 := q5.2.2.2.b.2.2.2.1
          have ed : fl σ3 23 D = fl σ0 23 D := by
            have dd := c1.2.2.2.2.2.2.2.1.b.1
            exact q8.2.1 23 D hx0.2 (by omega) (by omega) (by omega)
          rw [ed] at lt3
          rw [(t7.2.2 _ lt3).2]
      have o1 := t6.1.2.2.2.2.2.2.1
      have o2 := t6.2.2.2.1 (by simp)
      have o3 : ((opz l ++ [(o', w, y)]).length : Int) = l.length + 1 := by rw [List.length_append, lenO]; simp
      rw [o3] at o1
      rw [hop, cp]
      omega
    · exfalso; have := q4.2.2; omega
  have rdF : ∀ (τ' : St) (a : Int), 71 ≤ a → a ≤ 74 → RDr h0' (d + 1) τ1 τ' → el τ' a d = el τ a d := fun τ' a y1 y2 hr => by rw [hr.2.2.2 a d y1 y2 (by omega)]; exact el1 a d (by omega) (by omega)
  have k5 : (k2 : Int) ≤ 8 * (cl + 1 - at1) + 8 * (21 - op) := p5
  rcases p8 with ⟨flt, ⟨L', xc, len⟩, rm⟩ | ⟨seg, nd, y1, y2, y3, y4, y5, y6, y7, y8, y9, y10, y11⟩
  · -- the part ended with a fault
    have i4 : i32 (fl σ2 182 1) ∧ fl σ2 182 1 ≠ 0 := by have := flt.1; have := flt.2.2; exact ⟨⟨by omega, by omega⟩, by omega⟩
    obtain ⟨σ3, q1, q2, q3, q4, q5⟩ := sg_any (N := N) (π := π2) (s := 64) N3 xc.2.1 i4.1 i4.2
    obtain ⟨σ4, u1, u2, u3, u4, u5⟩ := sg_any (N := N) (π := π2) (s := 33) N3 q3 (by rw [q4]; exact i4.1) (by rw [q4]; exact i4.2)
    have xf := q2.tr u2
    obtain ⟨w3, w4⟩ := w1.xf xf
    have xr4 : XR Xo σ4 s = XR Xo σ s := (XR.eq (fun f _ _ => w4 f)).trans xr2
    rw [lenI] at len
    rw [c8] at rm
    have k1 : fl σ4 1 (fl σ0 23 D) = fl σ2 1 (fl σ0 23 D) := xf.1 1 _ (by omega) (by omega)
    have cp : cpc π2 σ4 (fl σ0 23 D) = cpc π2 σ2 (fl σ0 23 D) := by unfold cpc; rw [k1]
    have b23 := x8.b.2.1
    have k210 : fl σ4 210 s = fl σ 210 s := by rw [w4, w2]
    have lnk : ln π2 (fl σ4 210 s) = ln π (fl σ 210 s) := by rw [k210]; exact (p6.1.2.2 _ c2.1.2.2.2.1.2.1).2
    refine finF π2 σ4 τ2 0 1 1 (1 + k2) L' ?_ (r1.tr p2) (by omega) ⟨by rw [u4, q4]; exact flt.1, by rw [u5, q5]; exact flt.2.1, flt.2.2⟩ (by rw [xr4]; exact xc.xf xf (RDr.rf 0 0 τ2) u3) (by omega) w3 (ft2.xf xf (by rw [c8] at b23; omega)) rd02 ?_ ?_
    · rw [cls, Tx_steps_23, grd_t i4.1, if_neg i4.2, Tx_steps_45, q1, Option.bind_some, u1, Option.bind_some]
    · have := rm.1; omega
    · rw [cp, lnk]; have := rm.2; omega
  · -- the changes
    obtain ⟨at2, hat2⟩ : ∃ at2, fl τ2 2 0 = at2 := ⟨_, rfl⟩
    obtain ⟨h2, hh2⟩ : ∃ h2, fl τ2 16 0 = h2 := ⟨_, rfl⟩
    rw [hat2] at y7 y8 y9 y10 y11
    rw [hh2] at y5 y7 y9
    have z182 := y1.2.2.2.1.1
    have z11 := y1.2.2.2.1.2
    have at2s : fl σ2 222 50 = at2 := by rw [← y1.2.2.1]; exact hat2
    have bb2 := y1.2.1.2.1
    rw [at2s] at bb2
    have p4' := p4 z11
    rw [hat2] at p4'
    have lenS : ((L0 ++ sgs l ++ seg).length : Int) = L0.length + (sgs l).length + seg.length := by rw [List.length_append]; omega
    obtain ⟨π3, σ3, τ3, o3, n3, q1, q2, ⟨q3, q4, q5, q6⟩⟩ := mods_lp (N := N) (D := D) (P := P) (st := st) (cl := cl) (lo := h0') (d := d + 1) (j := ((L0 ++ sgs l).length : Int)) (Kn := Kn) hN (by omega) (cl - at2).toNat N N π2 σ2 τ2 (L0 ++ sgs l ++ seg) seg o nd (at2 - at1 + 6 * (21 - op)) (at2 - at1) 0 (12 * (at2 - at1) - 1).toNat (by rw [at2s]; omega) (by omega) (by omega) y1.xb ⟨by omega, by omega⟩ ⟨by omega, by omega⟩ (by rw [hh2]; omega) (by rw [hh2]; exact y5) (by rw [hh2]; exact y7) ⟨by omega, by omega⟩ y6
    rw [d2] at q3 q6
    rw [at2s] at q6
    -- the turn of the step
    have r2 : ∀ τ4, r_readStep_121 N τ3 n3 = some τ4 → RLp N 1 τ2 τ4 := fun τ4 h4 => by
      have k74 : el τ2 74 (d + 1) = 11 := by rw [p7.2.2.2 74 (d + 1) (by omega) (by omega) (by omega), el1 74 (d + 1) (by omega) (by omega)]; exact hF5
      have k72 : el τ2 72 (d + 1) = 1 := by rw [p7.2.2.2 72 (d + 1) (by omega) (by omega) (by omega)]; exact e72
      refine RLp.one (d := d + 1) (K := 11) (by rw [y2]; omega) ⟨by omega, by omega⟩ z11 ⟨k74, by decide, by decide⟩ ?_
      have e : rdK N 11 τ2 (d + 1) = r_readStep N τ2 (d + 1) := by unfold rdK; simp
      rw [e, r_readStep, grd_t (by exact ⟨by omega, by omega⟩), k72, grd_t (by decide), if_neg (by decide), y3, q2, h4]
    obtain ⟨w3, w4⟩ := w1.ft (y1.2.2.2.2.2.2.2.1) (by rw [d2]; exact q3)
    have ft3 : XFt (fl σ0 23 D) π0 σ0 π3 σ3 := ft2.tr q3
    have nge3 := q3.1.1
    have p7' : RDr h0' (d + 1) τ1 τ2 := ⟨p7.1, p7.2.1, p7.2.2.1, fun a j y z w => p7.2.2.2 a j y z (by omega)⟩
    have rd23 : RDr h0' (d + 1) τ1 τ3 := p7'.tr q4 (Int.le_refl _) (Int.le_refl _)
    have rd03 : RDr lo d τ0 τ3 := rd02.tr q4 (by omega) (by omega)
    have cls2 : ∀ σa σb w y, Tx_behindSign N π3 σ3 64 = some (σa, w) → Tx_behindSign N π3 σa 33 = some (σb, y) → Tx_steps_8 N rP (n + 1) π σ s 1 l.length = Option.bind (Sp_giveWeighted N π3 σb s o3 w y) (fun r25 => grd (ob π3 s 10) (Tx_steps_73 N rP (Tx_steps_8 N rP n) r25.1 r25.2 s l.length)) := fun σa σb w y h1 h2 => by
      rw [cls, Tx_steps_23, z182, grd_t (by decide), if_pos rfl, Tx_mods, q1, Option.bind_some, Tx_steps_41, Tx_steps_45, h1, Option.bind_some, h2, Option.bind_some]
    have b23 := x8.b.2.1
    rw [c8] at b23
    have xr3 : XR Xo σ3 s = XR Xo σ s := (XR.eq (fun f _ _ => w4 f)).trans xr2
    have ln3 : ln π3 (fl σ3 210 s) = ln π (fl σ 210 s) := by rw [w4, w2, (q3.1.2.2 _ (by have := c2.1.2.2.2.1.2.1; omega)).2]; exact (p6.1.2.2 _ c2.1.2.2.2.1.2.1).2
    rw [c8] at y11
    have kk : ∀ σb, XFc σ3 σb → cpc π3 σb (fl σ0 23 D) = cpc π3 σ3 (fl σ0 23 D) ∧ ln π3 (fl σb 210 s) = ln π (fl σ 210 s) ∧ XR Xo σb s = XR Xo σ s := fun σb hx => by
      refine ⟨?_, ?_, ?_⟩
      · unfold cpc; rw [hx.1 1 _ (by omega) (by omega)]
      · rw [hx.1 210 s (by omega) (by omega)]; exact ln3
      · rw [← xr3]; exact XR.eq (fun f _ _ => hx.1 f s (by omega) (by omega))
    rcases q6 with ⟨flt, ⟨L', xc, len⟩, hn3, rm⟩ | ⟨sg', c, z1, z2, z3, z4, z5, z6, z7, z8, z9⟩
    · -- a fault in a change
      obtain ⟨σa, σb, τ4, w, y, s1, s2, s3, s4, s5, s6, s7⟩ := stp_end_any (N := N) (π := π3) (nd := n3) (lo := h0') (d := d + 1) N3 xc.2.1 flt ⟨⟨by omega, by omega⟩, hn3.1.2⟩ (by omega)
      obtain ⟨w5, w6⟩ := w3.xf s4
      obtain ⟨kk1, kk2, kk3⟩ := kk σb s4
      refine finF π3 σb τ4 o3 w y (1 + k2 + 1) L' (cls2 σa σb w y s1 s2) ((r1.tr p2).tr (r2 τ4 s3)) (by omega) s6 (by rw [kk3]; exact xc.xf s4 s5 s7) (by rw [lenS] at len; omega) w5 (ft3.xf s4 (by omega)) (rd03.tr s5 (by omega) (by omega)) ?_ ?_
      · have := rm.1; have := y11.1; omega
      · rw [kk1, kk2]; have := rm.2; have := y11.2; omega
    · obtain ⟨at3, hat3⟩ : ∃ at3, fl τ3 2 0 = at3 := ⟨_, rfl⟩
      obtain ⟨c3', hc3'⟩ : ∃ c3', fl τ3 16 0 = c3' := ⟨_, rfl⟩
      rw [hc3'] at z4 z5 z7
      rw [hat2, hat3] at z8
      rw [hh2] at z5
      have zb := z1.t.2.1
      have zpos := z1.2
      rw [hat3] at zpos
      obtain ⟨σa, σb, τ4, w, y, s1, s2, s3, s4, s5, s6⟩ := stp_end (N := N) (nd := n3) (lo := h0') (d := d + 1) N3 z1 ⟨⟨by omega, by rw [hc3']; omega⟩, by rw [hc3']; omega⟩ (by omega)
      obtain ⟨kk1, kk2, kk3⟩ := kk σb s4
      obtain ⟨w5, w6⟩ := w3.xf s4
      have ftb : XFt (fl σ0 23 D) π0 σ0 π3 σb := ft3.xf s4 (by omega)
      have rd04 : RDr lo d τ0 τ4 := rd03.tr s5 (by omega) (by omega)
      obtain ⟨Lz, hLz⟩ : ∃ Lz, Lz = L0 ++ sgs l ++ seg ++ sg' := ⟨_, rfl⟩
      rw [← hLz] at z1 s6
      have lenZ : (Lz.length : Int) = L0.length + (sgs l).length + seg.length + c := by rw [hLz, List.length_append, z2]; omega
      rcases s6 with ⟨flt, xb⟩ | ⟨t1, t2, t3, t4, t5, ⟨n94, n87, n92, n91⟩, hw, hy, tab, hat4⟩
      · -- a fault in a sign
        have xc : XC (XR Xo σb s) π3 σb τ4 D P Lz Kn st cl := by
          rw [kk3]
          exact ⟨z1.1.1, xb, by rw [s4.1 221 50 (by omega) (by omega)]; exact z1.1.2.2.2.2.2.2.1, z1.bd.st (TX.rd s5) (fun f i u v => s4.1 f i (by omega) (by omega)) s4.2⟩
        refine finF π3 σb τ4 o3 w y (1 + k2 + 1) Lz (cls2 σa σb w y s1 s2) ((r1.tr p2).tr (r2 τ4 s3)) (by omega) flt xc (by omega) w5 ftb rd04 ?_ ?_
        · have := z9.1; have := y11.1; omega
        · rw [kk1, kk2]; have := z9.2; have := y11.2; omega
      · rw [hc3'] at t3 t4 n94 n87 n92 n91 tab
        rw [hat3] at hat4
        have bdb : BDy (XR Xo σb s) π3 σb τ4 D P Lz Kn := by rw [kk3]; exact t1.bd
        obtain ⟨π6, σ6, lw6, v1', v2, v3, v4, v5, v6, v7, v8⟩ := rw_give (N := N) (o := o3) (x := w) (y := y) w5 bdb (by omega) (by omega) (by omega)
        have xb6 : XSb (XR Xo σ6 s) π6 σ6 τ4 D P Lz Kn st cl := t1.gw v3 (by omega) v5
        have rd14 : RDr h0' (d + 1) τ1 τ4 := rd23.tr s5 (Int.le_refl _) (Int.le_refl _)
        have rk4 : RK N τ4 (r + 1) h0' P L0.length r l := c3.mv ⟨by omega, by omega, by omega⟩ h0' ⟨Int.le_refl _, by omega⟩ (fun a i u1 u2 u3 => by rw [rd14.2.2.1 a i (by omega) u2 u3]; exact el1 a i (by omega) (by omega))
        obtain ⟨l1, l2, l3⟩ := rk4.lst ⟨by omega, by omega⟩
        have k41 : fl τ4 41 0 = d + 1 := by rw [t2, q5, y2]; omega
        have k11 : fl τ4 11 0 = 0 := by have e := t1.1.2.2.2.1.2; rw [fl_sfn _ _ _ _ (by decide)] at e; exact e
        obtain ⟨k, g, hg, tt1, tt2, tt3, tt4, tt5⟩ := seq_turn (N := N) (d := d) (r := r) (c := c3') (s := s) (x3 := l.length) (rP := rP) (rc := Tx_steps_8 N rP n) N3 xb6 ⟨k41, ⟨by omega, by omega⟩, by rw [rdF τ4 72 (by decide) (by decide) rd14]; exact hF3, by rw [rdF τ4 73 (by decide) (by decide) rd14]; exact hF4, t3⟩ ⟨⟨by omega, by omega⟩, ⟨by omega, by omega⟩⟩ l1 l2
        have r4 : RLp N (1 + k2 + 1) τ τ4 := (r1.tr p2).tr (r2 τ4 s3)
        have r5 := r4.tr (RLp.one (N := N) (d := d) (K := 10) k41 ⟨by omega, by omega⟩ k11 ⟨by rw [rdF τ4 74 (by decide) (by decide) rd14]; exact hF2, by decide, by decide⟩ tt2)
        obtain ⟨τ5, hτ5⟩ : ∃ τ5, τ5 = sf (apN τ4 r c3') 2 0 k := ⟨_, rfl⟩
        obtain ⟨σ7, hσ7⟩ : ∃ σ7, σ7 = sf σ6 222 50 k := ⟨_, rfl⟩
        rw [← hτ5] at r5
        rw [← hσ7] at tt1 tt3
        obtain ⟨x, hx⟩ : ∃ x : Kdr, x = (c3', n3, o3, (w, y), seg ++ sg', (h0', c3'), (at2 - at1 + 6 * (21 - op) + c, at2 - at1), (12 * (at2 - at1) - 1).toNat + 2 * c) := ⟨_, rfl⟩
        have xk : KD1 N τ4 (r + 1) (c3' + 1) P (L0.length + (sgs l).length) x := by
          rw [hx]
          refine ⟨⟨⟨by show 0 ≤ c3'; omega, by show c3' < 32768; omega⟩, by show r + 1 ≤ c3'; omega, by show c3' < c3' + 1; omega⟩, ?_, ?_, ?_, ⟨by show r + 1 ≤ h0'; omega, by show c3' ≤ c3' + 1; omega⟩, ⟨by show h0' ≤ n3; omega, by show n3 < c3'; omega⟩, Or.inr (by show ¬ (h0' ≤ c3' ∧ c3' < c3'); omega), ?_⟩
          · show 0 ≤ el τ4 94 c3' ∧ el τ4 94 c3' < 100
            rw [n94]; decide
          · show n3 = if el τ4 94 c3' = 24 then el τ4 87 c3' else c3'
            rw [if_pos n94, n87]
          · show (w, y) = wtn τ4 c3'
            unfold wtn
            rw [if_pos n94, n92, n91]
          · show TXq N τ4 h0' c3' P (L0.length + (sgs l).length) (seg ++ sg') n3 o3 _ _ _
            rw [← lenI]
            exact z7.cg (fun a i u1 u2 _ u4 u5 => tab a i u1 u2 u4 u5) ⟨Int.le_refl _, Int.le_refl _⟩ ⟨Int.le_refl _, Int.le_refl _, Nat.le_refl _⟩
        have rk5 : RK N (apN τ4 r c3') (r + 1) (c3' + 1) P L0.length r (l ++ [x]) := rk4.app (hi1 := c3' + 1) (c := c3') ⟨by omega, by omega⟩ ⟨by omega, by omega, by omega, by omega⟩ xk (by rw [hx]; rfl) (by rw [hx]; exact Int.le_refl _)
        have rdA : RDr lo (d + 1) τ4 (apN τ4 r c3') := apN_rd (RDr.rf _ _ _) ⟨by omega, by omega, by rcases l3 with q | q; exact Or.inl q; exact Or.inr (by omega)⟩
        have rdB : RDr lo (d + 1) (sf τ4 2 0 k) τ5 := by
          rw [hτ5]
          exact ⟨fun f i a b c e q => by rw [fl_sfn _ _ _ _ (by omega), fl_sfn _ _ _ _ (by omega), apN_fl], rdA.2.1, rdA.2.2.1, rdA.2.2.2⟩
        have f5 : ∀ (f : Nat) (i : Int), f ≠ 2 → fl τ5 f i = fl τ4 f i := fun f i hf => by rw [hτ5, fl_sfn _ _ _ _ hf, apN_fl]
        have f52 : fl τ5 2 0 = k := by rw [hτ5, fl_sfs]
        have f516 : fl τ5 16 0 = c3' + 1 := by rw [f5 16 0 (by decide)]; exact t4
        have sL : L0 ++ sgs (l ++ [x]) = Lz := by
          rw [hLz, sgs_app, show sgs [x] = seg ++ sg' by rw [hx]; show (seg ++ sg') ++ [] = _; rw [List.append_nil]]
          simp only [List.append_assoc]
        have oL : opz (l ++ [x]) = opz l ++ [(o3, w, y)] := by unfold opz; rw [List.map_append, hx]; rfl
        have f7 : ∀ (f : Nat) (i : Int), ¬ (f = 222 ∧ i = 50) → fl σ7 f i = fl σ6 f i := fun f i h => by rw [hσ7, fl_sf, if_neg h]
        have xf7 : XFc σ6 σ7 := by rw [hσ7]; exact (XFc.rf σ6).at _
        have sn := c2.1.2.1
        have xs5 : XS (XR Xo σ7 s) π6 σ7 τ5 D P (L0 ++ sgs (l ++ [x])) Kn st cl := by
          rw [sL, XR.eq (fun f _ _ => f7 f s (by omega))]
          exact tt3.rd rdB ⟨by rw [f52, fl_sfs], by rw [f5 11 0 (by decide), fl_sfn _ _ _ _ (by decide)], by rw [f5 13 0 (by decide), fl_sfn _ _ _ _ (by decide)], by rw [f5 47 0 (by decide), fl_sfn _ _ _ _ (by decide)], by rw [f516]; omega⟩
        have kx1 : fl σ7 1 (fl σ0 23 D) = fl σ3 1 (fl σ0 23 D) := by rw [f7 1 _ (by omega), v8 1 _ (by omega), s4.1 1 _ (by omega) (by omega)]
        have bl3 := z1.bd.b.2.2.2.1
        have e323 : fl σ3 23 D = fl σ0 23 D := ft3.2.1 23 D hx0.2 (by have := x8.b.1; omega) (by have := x8.b.1; omega) (by omega)
        rw [e323] at bl3
        have cp6 : cpc π6 σ7 (fl σ0 23 D) = cpc π3 σ3 (fl σ0 23 D) := by
          unfold cpc
          rw [kx1]
          by_cases cc : fl σ3 1 (fl σ0 23 D) < 0
          · rw [if_pos cc, if_pos cc]
          · rw [if_neg cc, if_neg cc, (v3.1.2.2 _ bl3).2]
        have Dn : D ≠ s ∧ D ≠ 50 ∧ D ≠ 1 := by have := x8.b.1; omega
        have tpos := tt3.2.1.2.1
        have at7 : fl σ7 222 50 = k := by rw [hσ7, fl_sfs]
        rw [at7] at tpos
        have lenX : ((l ++ [x]).length : Int) = l.length + 1 := by rw [List.length_append]; simp
        have sc : SCo Xo N D P L0 Kn st cl r lo d at0 m0 kd kR place s π0 σ0 τ0 π6 σ7 τ5 (l ++ [x]) lw6 := by
          refine ⟨xs5, ?_, ?_, ?_, ?_, ?_, ⟨c7.1, c7.2.1, c7.2.2.1, by rw [f516]; omega⟩, ?_, ?_, ?_⟩
          · rw [oL]; exact (v4.xf xf7).1
          · rw [f516]
            exact rk5.mv ⟨by omega, by omega, by omega⟩ _ ⟨Int.le_refl _, by omega⟩ (fun a i _ _ _ => by rw [hτ5]; rfl)
          · exact (ftb.own v3 (v8 1 _ (by omega))).xf xf7 (by omega)
          · rw [hτ5]
            exact (rd04.tr rdA (Int.le_refl _) (by omega)).sf 2 _ (by omega)
          · rw [f5 13 0 (by decide), t5, z3, y4, hop]
          · have e9 : ∀ a : Int, 92 ≤ a → a ≤ 94 → el τ5 a r = el τ a r := fun a u1 u2 => by
              rw [hτ5, el_sf, apN_el _ _ _ _ _ (by omega), rd14.2.2.1 a r (by omega) u2 (by omega)]; exact el1 a r (by omega) (by omega)
            rw [e9 94 (by decide) (by decide), e9 93 (by decide) (by decide), e9 92 (by decide) (by decide)]; exact c7'
          · rw [f7 23 D (by omega), v8 23 D Dn.1, s4.1 23 D (by omega) (by omega)]; exact e323
          · unfold SBg
            rw [f52, f516, hop, cp6, f7 210 s (by omega), lenX, sgs_app, kss_app, oL]
            have e1 : kss [x] = (12 * (at2 - at1) - 1).toNat + 2 * c + 1 := by rw [hx]; show qK _ + 1 + 0 = _; rfl
            have e2 : (((sgs l ++ sgs [x]).length : Nat) : Int) = (sgs l).length + seg.length + c := by
              rw [List.length_append, show sgs [x] = seg ++ sg' by rw [hx]; show (seg ++ sg') ++ [] = _; rw [List.append_nil], List.length_append, z2]; omega
            rw [e1, e2]
            have r1 := y11.1
            have r2 := z9.1
            have r3 := y11.2
            have r4 := z9.2
            have t12 : ((12 * (at2 - at1) - 1).toNat : Int) = 12 * (at2 - at1) - 1 := by omega
            refine ⟨by omega, by omega, by omega, ?_, ?_, by omega, ?_, fun o ho => ?_⟩
            · have e3 : ((kss l + ((12 * (at2 - at1) - 1).toNat + 2 * c + 1) : Nat) : Int) = kss l + ((12 * (at2 - at1) - 1).toNat : Int) + 2 * c + 1 := by omega
              rw [e3, t12]
              omega
            · refine KDb.app (g5.mono (by omega) (by omega)) ?_ ?_
              · rw [hx]; show at2 - at1 + 6 * (21 - op) + c + 1 ≤ _; omega
              · rw [hx]; show at2 - at1 + l.length ≤ _; omega
            · rw [kk2] at v7; omega
            · rcases List.mem_append.1 ho with q | q
              · exact g8 o q
              · have e : o = (o3, w, y) := by simpa using q
                rw [e]; exact ⟨hw, hy⟩
        have cls3 : Tx_steps_8 N rP (n + 1) π σ s 1 l.length = Tx_steps_8 N rP n π6 σ7 s g (l.length + 1) := by
          rw [cls2 σa σb w y s1 s2, v1', Option.bind_some, grd_t v2, tt1]
        have c516 : fl τ5 16 0 ≤ 32768 := by rw [f516]; omega
        have f541 : fl τ5 41 0 = d + 1 := by rw [f5 41 0 (by decide)]; exact k41
        have e5 : ∀ a : Int, 71 ≤ a → a ≤ 74 → el τ5 a d = el τ a d := fun a u1 u2 => by
          rw [hτ5, el_sf, apN_el _ _ _ _ _ (by omega)]
          exact rdF τ4 a u1 u2 rd14
        rcases hg with hg | hg
        · -- the last one
          rw [hg, if_neg (by decide)] at r5
          have sc' := sc.fr (τ' := sf (sf τ5 46 0 r) 41 0 d) (fun f i u1 u2 => by rw [fl_sfn _ _ _ _ u1, fl_sfn _ _ _ _ u2]) (fun a i _ => rfl) c516
          refine ⟨π6, σ7, sf (sf τ5 46 0 r) 41 0 d, _, ?_, r5, Or.inr ⟨l ++ [x], lw6, sc', by simp, fl_sfs _ _ _ _, by rw [fl_sfn _ _ _ _ (by decide), fl_sfs], ?_⟩, fun _ => ?_, ?_⟩
          · rw [cls3, hg]
            obtain ⟨n', rfl⟩ : ∃ n', n = n' + 1 := ⟨n - 1, by omega⟩
            rw [Tx_steps_8, grd_t (by exact ⟨by omega, by omega⟩)]
            by_cases c' : (l.length : Int) + 1 < 2000
            · rw [if_pos c', grd_t (by decide), if_pos rfl]
            · rw [if_neg c']
          · rw [fl_sfn _ _ _ _ (by decide), fl_sfn _ _ _ _ (by decide), f52, hτ5, bA_rd (((rdA.sf 2 k (by omega)).sf 46 r (by omega)).sf 41 d (by omega)) k]; exact tt5
          · rw [fl_sfn _ _ _ _ (by decide), fl_sfn _ _ _ _ (by decide), f52, hat1]; omega
          · rw [hat1]; omega
        · rw [hg, if_pos rfl] at r5
          obtain ⟨τ6, hτ6⟩ : ∃ τ6, τ6 = nwF τ5 11 (-1) 0 := ⟨_, rfl⟩
          rw [← hτ6] at r5
          have v6' := nwF_v τ5 11 (-1) 0
          rw [← hτ6, f541] at v6'
          have f6 : ∀ (f : Nat) (i : Int), f ≠ 41 → fl τ6 f i = fl τ5 f i := fun f i hf => by rw [hτ6, nwF_fl _ _ _ _ _ _ hf]
          have e6 : ∀ a i : Int, ¬ (71 ≤ a ∧ a ≤ 74 ∧ i = d + 1) → el τ6 a i = el τ5 a i := fun a i hx => by rw [hτ6, nwF_el _ _ _ _ _ _ (by rw [f541]; exact hx)]
          have sc' := sc.fr (τ' := τ6) (fun f i u1 _ => f6 f i u1) (fun a i u => e6 a i (by omega)) c516
          have f62 : fl τ6 2 0 = k := by rw [f6 2 0 (by decide)]; exact f52
          obtain ⟨π', σ', τ', k', u1, u2, u3, u4, u5⟩ := ih π6 σ7 τ6 (l ++ [x]) lw6 (by rw [f62]; omega) (by omega) sc' ⟨by rw [hτ6, nwF_41, f541]; omega, by rw [e6 74 d (by omega), e5 74 (by decide) (by decide)]; exact hF2, by rw [e6 72 d (by omega), e5 72 (by decide) (by decide)]; exact hF3, by rw [e6 73 d (by omega), e5 73 (by decide) (by decide)]; exact hF4, v6'.1, v6'.2.2.1⟩
          rw [f62] at u4 u5
          refine ⟨π', σ', τ', _, ?_, r5.tr u2, u3, fun h => ?_, ?_⟩
          · rw [cls3, hg, ← lenX]; exact u1
          · have := u4 h; rw [hat1]; omega
          · rw [hat1]; omega
theorem steps_lp {D P st cl r lo d at0 m0 kd kR place s op : Int} {L0 : List Stq} {Kn : List Int} {π0 : Sh} {σ0 τ0 : St} {rP : Sh → St → Option (Sh × St × Int)} (hN : 30000001 ≤ N) (hop : fl τ0 13 0 = op) (hPT : PTH N D P Kn st cl rP op) (hd : 0 ≤ d ∧ d + 2 ≤ 10 * op + 20) (hL : (L0.length : Int) + 2 * (cl + 1 - at0) + 4 * (21 - op) ≤ 19000) (hM : m0 + 3 * (cl + 1 - at0) + 8 * (21 - op) ≤ 32768) (h0 : 0 ≤ at0) (hn0 : 56 ≤ nn π0) (hx0 : fl σ0 23 D < nn π0 ∧ D < nn π0) : ∀ (m n : Nat) (π : Sh) (σ τ : St) (l : List Kdr) (lw : Int), cl - fl τ 2 0 < m → m < n → SCo Xo N D P L0 Kn st cl r lo d at0 m0 kd kR place s π0 σ0 τ0 π σ τ l lw → HDf τ d r → ∃ π' σ' τ' k, Tx_steps_8 N rP n π σ s 1 l.length = some (π', σ') ∧ RLp N k τ τ' ∧ STo Xo N D P L0 Kn st cl r lo d at0 m0 kd kR place s π0 σ0 τ0 π' σ' τ' ∧ (fl τ' 11 0 = 0 → (k : Int) ≤ 8 * (fl τ' 2 0 - fl τ 2 0)) ∧ (k : Int) ≤ 8 * (cl + 1 - fl τ 2 0) + 8 * (21 - op) + 4
  | 0, _, _, _, _, _, _, h, _, hc, _ => by
    have a := hc.1.2.2.1
    have b := hc.1.2.1.2.1
    simp at h
    omega
  | m + 1, 0, _, _, _, _, _, _, h, _, _ => absurd h (by omega)
  | m + 1, n + 1, _, _, _, _, _, hm, hmn, hc, hF => steps_one hN hop hPT hd hL hM h0 hn0 hx0 (steps_lp hN hop hPT hd hL hM h0 hn0 hx0 m n) hm hmn hc hF
end LP
