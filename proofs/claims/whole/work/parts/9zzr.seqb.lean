/-! a sequence, both -/
section SB
variable {N : Nat} {Xo : Int → Prop}
/-- how a sequence ends -/
def SEo (Xo : Int → Prop) (N : Nat) (D P : Int) (L : List Stq) (Kn : List Int) (st cl d : Int) (π : Sh) (σ τ : St) (π' : Sh) (σ' τ' : St) (o : Int) : Prop := XFt (fl σ 23 D) π σ π' σ' ∧ RDr (fl τ 16 0) d τ τ' ∧
  ((FLT σ' τ' ∧ (∃ L', XC Xo π' σ' τ' D P L' Kn st cl ∧ (L'.length : Int) ≤ L.length + 2 * (cl + 1 - fl τ 2 0)) ∧ RmX (fl σ 23 D) π σ π' σ' (12 * (cl + 1 - fl τ 2 0) + 20 * (21 - fl τ 13 0) + 8) (100 * (cl + 1 - fl τ 2 0) + 200 * (21 - fl τ 13 0) + 80)) ∨
   ∃ seg n, XS Xo π' σ' τ' D P (L ++ seg) Kn st cl ∧ fl τ' 41 0 = d ∧ fl τ' 46 0 = n ∧ fl τ' 13 0 = fl τ 13 0 ∧ (fl τ 16 0 ≤ n ∧ n < fl τ' 16 0) ∧ (el τ' 94 n = 23 ∧ bA τ' (fl τ' 2 0) ≠ 32) ∧ TXq N τ' (fl τ 16 0) (fl τ' 16 0) P L.length seg n o (fl τ' 2 0 - fl τ 2 0 + 6 * (21 - fl τ 13 0) + 2) (fl τ' 2 0 - fl τ 2 0) (12 * (fl τ' 2 0 - fl τ 2 0) + 3).toNat ∧ fl τ 2 0 < fl τ' 2 0 ∧ fl τ' 16 0 ≤ fl τ 16 0 + 1 + 3 * (fl τ' 2 0 - fl τ 2 0) ∧ (seg.length : Int) ≤ 2 * (fl τ' 2 0 - fl τ 2 0) + 1 ∧ RmX (fl σ 23 D) π σ π' σ' (12 * (fl τ' 2 0 - fl τ 2 0) + 3) (100 * (fl τ' 2 0 - fl τ 2 0)))
/-- what is left of the row's words when it is done -/
theorem SCo.words {D P st cl r lo d at0 m0 kd kR place s lw : Int} {L0 : List Stq} {Kn : List Int} {π0 π : Sh} {σ0 τ0 σ τ : St} {l : List Kdr} (h : SCo Xo N D P L0 Kn st cl r lo d at0 m0 kd kR place s π0 σ0 τ0 π σ τ l lw) (hne : l ≠ []) : (nn π : Int) ≤ nn π0 + 2 + 12 * (fl τ 2 0 - at0) ∧ (sw π : Int) + 4 * cpc π0 σ0 (fl σ0 23 D) ≤ sw π0 + 4 * cpc π σ (fl σ0 23 D) + 100 * (fl τ 2 0 - at0) := by
  obtain ⟨-, h2, -, -, -, -, -, -, -, h9⟩ := h
  obtain ⟨o, -, -, w, -, -, -⟩ := h2
  have e : opz l ≠ [] := by
    intro e; have := opz_len l; rw [e] at this; simp at this; exact hne (List.length_eq_zero_iff.1 this.symm)
  have lw' := w e
  have len := opz_len l
  have o6 := o.2.2.2.2.2.2.1
  rw [len] at o6
  obtain ⟨g1, g2, g3, g4, g5, g6, g7, g8⟩ := h9
  have pos : 1 ≤ l.length := by
    cases l with
    | nil => exact absurd rfl hne
    | cons => simp
  refine ⟨g6, ?_⟩
  omega
set_option maxHeartbeats 4000000 in
theorem seq_both {D P st cl d op : Int} {L : List Stq} {Kn : List Int} {π : Sh} {σ τ : St} {rP : Sh → St → Option (Sh × St × Int)} (hN : 30000001 ≤ N) (h : XS Xo π σ τ D P L Kn st cl) (hop : fl τ 13 0 = op) (hPT : PTH N D P Kn st cl rP op) (hF : fl τ 41 0 = d + 1 ∧ el τ 74 d = 10 ∧ el τ 72 d = 0 ∧ el τ 71 d = 0) (hd : 0 ≤ d ∧ d + 2 ≤ 10 * op + 20) (hL : (L.length : Int) + 2 * (cl + 1 - fl τ 2 0) + 4 * (21 - op) ≤ 19000) (hM : fl τ 16 0 + 1 + 3 * (cl + 1 - fl τ 2 0) + 8 * (21 - op) ≤ 32768) : ∃ π' σ' τ' o k, Tx_seq N rP π σ = some (π', σ', o) ∧ RLp N k τ τ' ∧ SEo Xo N D P L Kn st cl d π σ τ π' σ' τ' o ∧ (fl τ' 11 0 = 0 → (k : Int) ≤ 8 * (fl τ' 2 0 - fl τ 2 0) + 1) ∧ (k : Int) ≤ 8 * (cl + 1 - fl τ 2 0) + 8 * (21 - op) + 5 := by
  obtain ⟨x1, x2, x3, ⟨x4, x4'⟩, x5, x6, x7, x8, x9⟩ := id h
  obtain ⟨a0, ⟨b1, b2, b3, b4, b5⟩, e0, d0⟩ := id x2
  have size := a0.2.2.1
  have n56 := x1.1
  have N3 : 3000 ≤ N := by omega
  obtain ⟨hF1, hF2, hF3, hF4⟩ := hF
  obtain ⟨dd1, dd2, dd3, dd4, dd5⟩ := x8.b
  have hop' : 0 ≤ op ∧ op ≤ 20 := by rw [← hop]; exact x5.2
  obtain ⟨k, s1, s2, s3, s4, s5, s6⟩ := h.xb.skip (N := N) N3
  obtain ⟨σ1, hσ1⟩ : ∃ σ1, σ1 = sf σ 222 50 k := ⟨_, rfl⟩
  obtain ⟨τ1, hτ1⟩ : ∃ τ1, τ1 = sf τ 2 0 k := ⟨_, rfl⟩
  rw [← hσ1] at s1 s3
  rw [← hτ1] at s2 s3
  have g1 : ∀ (f : Nat) (i : Int), ¬ (f = 222 ∧ i = 50) → fl σ1 f i = fl σ f i := fun f i hx => by rw [hσ1, fl_sf, if_neg hx]
  have at1 : fl σ1 222 50 = k := by rw [hσ1, fl_sfs]
  have t12 : fl τ1 2 0 = k := by rw [hτ1, fl_sfs]
  have t1 : ∀ (f : Nat) (i : Int), f ≠ 2 → fl τ1 f i = fl τ f i := fun f i hx => by rw [hτ1, fl_sfn _ _ _ _ hx]
  have xf1 : XFc σ σ1 := by rw [hσ1]; exact (XFc.rf σ).at _
  obtain ⟨at0, hat0⟩ : ∃ at0, at0 = fl τ 2 0 := ⟨_, rfl⟩
  obtain ⟨r, hr⟩ : ∃ r, r = fl τ 16 0 := ⟨_, rfl⟩
  rw [← hat0] at hL hM s6
  rw [← hr] at hM x9
  -- the row is begun
  obtain ⟨π2, σ2, q1, q2, q3, q4, q5, q6, q7, q8⟩ := c_row (N := N) (kd := 4) (place := k) s3
  have at2 : fl σ2 222 50 = k := by rw [q5.2.1 222 50 (by omega)]; exact at1
  have ft2 : XFt (fl σ 23 D) π σ π2 σ2 := ((XFt.rf _ π σ).xf xf1 (by omega)).nw q5 (Int.le_refl _) dd2.2
  have e23 : fl σ2 23 D = fl σ 23 D := by rw [q5.2.1 23 D (by omega), g1 23 D (by omega)]
  have cp2 : cpc π2 σ2 (fl σ 23 D) = cpc π σ (fl σ 23 D) := by
    unfold cpc
    rw [q5.2.1 1 _ dd2.2, g1 1 _ (by omega)]
    by_cases c : fl σ 1 (fl σ 23 D) < 0
    · rw [if_pos c, if_pos c]
    · rw [if_neg c, if_neg c, (q5.1.2.2 _ dd4).2]
  -- the class
  have sk2 : Tx_skipBlanks N π2 σ2 = some σ2 := by
    obtain ⟨k', z1, z2, z3, z4, z5, z6⟩ := q3.xb.skip (N := N) N3
    have e : k' = k := by
      rw [at2] at z4
      by_cases c : k < k'
      · have := z6 k (by rw [t12]; exact Int.le_refl _) c
        rw [hτ1, bA_rd ((RDr.rf 0 0 τ).sf 2 _ (by omega))] at this
        exact absurd this s5
      · omega
    rw [z1, e, sf_id at2]
  have cls : Tx_seq N rP π σ = Option.bind (Tx_steps_8 N rP N π2 σ2 (nn π) 1 0) (fun r10 => Tx_seq_22 N rP r10.1 r10.2 (nn π)) := by
    have fz : fl (zO σ1 (nn π) dfl) 222 50 = k := by rw [fl_zO, if_neg (by omega)]; exact at1
    rw [Tx_seq, s1, Option.bind_some, Tx_seq_7, fz, q1, Option.bind_some, grd_t q2, Tx_seq_16, Tx_steps, sk2, Option.bind_some]
  -- the reference
  have n16 : fl τ1 16 0 = r := by rw [t1 16 0 (by decide), hr]
  obtain ⟨τ2, hτ2⟩ : ∃ τ2, τ2 = nwF (se (se (nwN τ1 23 k) 73 d r) 72 d 1) 11 (-1) 0 := ⟨_, rfl⟩
  have e41 : fl (se (se (nwN τ1 23 k) 73 d r) 72 d 1) 41 0 = d + 1 := by rw [fl_se, fl_se, nwN_fl _ _ _ _ _ (by decide), t1 41 0 (by decide)]; exact hF1
  have rrd : rdK N 10 τ d = some τ2 := by
    have e : rdK N 10 τ d = r_readSeq N τ d := by unfold rdK; simp
    rw [e, r_readSeq, grd_t (by exact ⟨by omega, by omega⟩), hF3, grd_t (by decide), if_pos rfl, s2, Option.bind_some, show el τ1 71 d = 0 by rw [hτ1, el_sf]; exact hF4, grd_t (by decide), if_pos rfl, t12, r_node' (by rw [n16]; omega), Option.bind_some, n16]
    simp only
    rw [r_readSeq_55, grd_t (by exact ⟨by omega, by omega⟩), bnd, r_begin' (by rw [e41]; omega), Option.bind_some, hτ2]
  have r1 : RLp N 1 τ τ2 := RLp.one hF1 ⟨by omega, by omega⟩ x4' ⟨hF2, by decide, by decide⟩ rrd
  have f2 : ∀ (f : Nat) (i : Int), f ≠ 41 → f ≠ 16 → fl τ2 f i = fl τ1 f i := fun f i y z => by rw [hτ2, nwF_fl _ _ _ _ _ _ y, fl_se, fl_se, nwN_fl _ _ _ _ _ z]
  have f216 : fl τ2 16 0 = r + 1 := by rw [hτ2, nwF_fl _ _ _ _ _ _ (by decide), fl_se, fl_se, nwN_16, n16]
  have f241 : fl τ2 41 0 = d + 2 := by rw [hτ2, nwF_41, e41]; omega
  have el2 : ∀ a i : Int, ¬ (71 ≤ a ∧ a ≤ 74 ∧ d ≤ i) → el τ2 a i = el (nwN τ1 23 k) a i := fun a i y => by
    rw [hτ2, nwF_el _ _ _ _ _ _ (by rw [e41]; omega), el_se, if_neg (by omega), el_se, if_neg (by omega)]
  have v := nwN_v τ1 23 k
  rw [n16] at v
  have v2 := nwF_v (se (se (nwN τ1 23 k) 73 d r) 72 d 1) 11 (-1) 0
  rw [← hτ2, e41] at v2
  have hdf : HDf τ2 d r := by
    refine ⟨f241, ?_, ?_, ?_, v2.1, v2.2.2.1⟩
    · rw [hτ2, nwF_el _ _ _ _ _ _ (by rw [e41]; omega), el_sen _ _ _ _ (by decide), el_sen _ _ _ _ (by decide), nwN_el _ _ _ _ _ (by omega), hτ1, el_sf]; exact hF2
    · rw [hτ2, nwF_el _ _ _ _ _ _ (by rw [e41]; omega), el_ses]
    · rw [hτ2, nwF_el _ _ _ _ _ _ (by rw [e41]; omega), el_sen _ _ _ _ (by decide), el_ses]
  have rd2 : RDr r d τ τ2 := by
    rw [hτ2]
    refine nwF_rd (((nwN_rd ?_ 23 k (by rw [n16]; exact Int.le_refl _)).sp 73 d r (by omega) (Int.le_refl _)).sp 72 d 1 (by omega) (Int.le_refl _)) _ _ _ (by rw [e41]; omega)
    rw [hτ1]; exact (RDr.rf _ _ τ).sf 2 _ (by omega)
  have rd12 : RDr r d τ1 τ2 := by
    rw [hτ2]
    exact nwF_rd (((nwN_rd (RDr.rf _ _ τ1) 23 k (by rw [n16]; exact Int.le_refl _)).sp 73 d r (by omega) (Int.le_refl _)).sp 72 d 1 (by omega) (Int.le_refl _)) _ _ _ (by rw [e41]; omega)
  have e22 : fl τ2 2 0 = k := by rw [f2 2 0 (by decide) (by decide)]; exact t12
  have xs2 : XS (XR Xo σ2 (nn π)) π2 σ2 τ2 D P L Kn st cl := q3.rd rd12 ⟨f2 2 0 (by decide) (by decide), f2 11 0 (by decide) (by decide), f2 13 0 (by decide) (by decide), f2 47 0 (by decide) (by decide), by rw [f216]; omega⟩
  have sc : SCo Xo N D P L Kn st cl r r d at0 (r + 1) 4 23 k (nn π) π σ τ π2 σ2 τ2 [] 0 := by
    refine sc_nil xs2 q4 (by rw [el2 87 r (by omega)]; exact v.2.2.2.2.2.2.2.1) ft2 rd2 (by rw [f2 13 0 (by decide) (by decide), t1 13 0 (by decide)]) ⟨by omega, Int.le_refl _, by omega, by rw [f216]; exact Int.le_refl _⟩ ⟨by rw [el2 94 r (by omega)]; exact v.1, by rw [el2 93 r (by omega)]; exact v.2.1, by rw [el2 92 r (by omega)]; exact v.2.2.1⟩ e23 (by rw [e22, hat0]; omega) (by rw [f216, e22]; omega) (by rw [e22]; omega) (by rw [e22, cp2, q8]; omega)
  obtain ⟨π3, σ3, τ3, k3, p1, p2, p3, p4, p5⟩ := steps_lp (N := N) (Xo := Xo) hN hop hPT hd hL hM (by omega) (by omega) ⟨dd2.2, dd1.2⟩ ((cl - k).toNat + 1) N π2 σ2 τ2 [] 0 (by rw [e22]; omega) (by omega) sc hdf
  have p1' : Tx_steps_8 N rP N π2 σ2 (nn π) 1 0 = some (π3, σ3) := p1
  rw [e22] at p4 p5
  rcases p3 with ⟨w1, w2, w3, w4, w5, w6⟩ | ⟨l, lw, w1, w2, w3, w4, w5⟩
  · -- a fault
    obtain ⟨L', w2, w2'⟩ := w2
    have n182 : i32 (fl σ3 182 1) ∧ fl σ3 182 1 ≠ 0 := by
      have := w1.1; have := w1.2.2
      exact ⟨⟨by omega, by omega⟩, by omega⟩
    refine ⟨π3, σ3, τ3, 0, 1 + k3, ?_, r1.tr p2, ⟨w4, by rw [← hr]; exact w5, Or.inl ⟨w1, ⟨L', w2.un, by rw [← hat0]; exact w2'⟩, by rw [← hat0]; exact w6⟩⟩, fun e => by have := w1.2.2; omega, by omega⟩
    rw [cls, p1', Option.bind_some, Tx_seq_22, grd_t n182.1, if_neg n182.2]
  · obtain ⟨c1, c2, c3, c4, c5, c6, c7, c7', c8, c9⟩ := id w1
    obtain ⟨y1, y2, y3, ⟨y4, y4'⟩, y5, y6, y7, y8, y9⟩ := id c1
    have wd := w1.words w2
    obtain ⟨g1', g2, g3, g4, g5, g6, g7, g8⟩ := c9
    rw [hop] at g5
    have ng3 := c4.1.1
    have oe : opz l ≠ [] := by
      intro e; have := opz_len l; rw [e] at this; simp at this; exact w2 (List.length_eq_zero_iff.1 this.symm)
    have len := opz_len l
    have pos3 := y2.2.1
    rw [← y3] at pos3
    obtain ⟨π4, σ4, u1, u2, u3, u4, u5, u6⟩ := row_add (N := N) (K := 4) (a := 0) y8 c2 (Or.inl rfl) oe (by omega) (fun x hx => (x8.2.2.2.2.2.2.2.1 x hx).2) (by rw [List.length_append]; omega) (by omega) (fun e => absurd e (by decide))
    rw [c8] at u3 u6
    have ft4 : XFt (fl σ 23 D) π σ π4 σ4 := c4.ls u3
    have f56 : ∀ (f : Nat) (i : Int), i < 56 → fl σ4 f i = fl σ3 f i := fun f i hi => u3.2.1 f i (by omega) (by omega)
    have lenI : ((L ++ sgs l).length : Int) = L.length + (sgs l).length := by rw [List.length_append]; omega
    have ne2 : fl σ3 1 (fl σ 23 D) ≠ 2 := by
      intro e
      have := y8.2.1.2
      rw [c8] at this
      rcases this with t | t
      · omega
      · have := t.2.1; omega
    have pos1 : 1 ≤ l.length := by
      cases l with
      | nil => exact absurd rfl w2
      | cons => simp
    refine ⟨π4, σ4, τ3, P + (L ++ sgs l).length, 1 + k3, ?_, r1.tr p2, ⟨ft4, by rw [← hr]; exact c5, Or.inr ⟨sgs l ++ [(4, k, 0, 0, 0, 0, 0, opz l)], r, ?_, w3, w4, c6, ⟨by omega, by omega⟩, ⟨c7'.1, w5⟩, ?_, by omega, by omega, ?_, ?_⟩⟩, fun e => by have := p4 e; omega, by omega⟩
    · rw [cls, p1', Option.bind_some, Tx_seq_22, y4, grd_t (by decide), if_pos rfl, y7, u1, Option.bind_some, grd_t u2, Tx_seq_40]
    · rw [← List.append_assoc]
      exact ⟨y1.ext u3.1, y2.mv (RDr.rf 0 0 τ3) ⟨f56 181 1 (by decide), f56 223 50 (by decide), fun j => u3.2.2.1 2 j (by omega) (fun e => ne2 e.symm)⟩ (by rw [f56 222 50 (by decide)]; exact ⟨y2.2.1.2.2.1, y2.2.1.2.2.2.1⟩), by rw [f56 222 50 (by decide)]; exact y3, ⟨by rw [f56 182 1 (by decide)]; exact y4, y4'⟩, by rw [f56 184 1 (by decide)]; exact y5, by rw [f56 224 50 (by decide)]; exact y6, by rw [f56 221 50 (by decide)]; exact y7, u4, y9⟩
    · rw [lenI, ← hr, hop, ← hat0]
      refine tx_row (K := 4) (place := k) (a := 0) (l := l) hN x8.1.2.2.2 ⟨by omega, Int.le_refl _, by omega, by omega⟩ (by rw [c7'.1]; unfold RKd; omega) c7'.2.1 c7'.2.2 c3.1 c3.2.1 (g5.mono (by omega) (by omega)) (by unfold IV wgt; exact Or.inr (Or.inr (Or.inr (Or.inl ⟨rfl, oe, by omega⟩)))) g8 (by omega) (by omega) ⟨by omega, by omega⟩ (by omega)
    · rw [← hat0]; simp; omega
    · rw [← hat0]
      exact ⟨by omega, by omega⟩
end SB
