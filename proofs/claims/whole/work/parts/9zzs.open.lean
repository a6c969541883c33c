/-! a part of a text that opens a sign: its start -/
section OP
variable {N : Nat} {Xo : Int → Prop}
theorem XS.op {π : Sh} {σ τ : St} {D P st cl v : Int} {L : List Stq} {Kn : List Int} (h : XS Xo π σ τ D P L Kn st cl) (hv : 0 ≤ v ∧ v ≤ 20) : XS Xo π (sf σ 184 1 v) (sf τ 13 0 v) D P L Kn st cl := by
  obtain ⟨x1, x2, x3, ⟨x4, x4'⟩, x5, x6, x7, x8, x9⟩ := id h
  have b := x2.2.1
  have f : ∀ (g : Nat) (i : Int), ¬ (g = 184 ∧ i = 1) → fl (sf σ 184 1 v) g i = fl σ g i := fun g i hx => by rw [fl_sf, if_neg hx]
  have f' : ∀ (g : Nat) (i : Int), g ≠ 13 → fl (sf τ 13 0 v) g i = fl τ g i := fun g i hx => fl_sfn _ _ _ _ hx
  have rd : RDr 0 0 τ (sf τ 13 0 v) := (RDr.rf 0 0 τ).sf 13 v (by omega)
  refine ⟨x1, x2.mv rd ⟨f 181 1 (by omega), f 223 50 (by omega), fun _ => rfl⟩ (by rw [f 222 50 (by omega)]; omega), by rw [f 222 50 (by omega), f' 2 0 (by decide)]; exact x3, ⟨by rw [f 182 1 (by omega)]; exact x4, by rw [f' 11 0 (by decide)]; exact x4'⟩, by rw [fl_sfs, fl_sfs]; exact ⟨rfl, hv⟩, by rw [f 224 50 (by omega), f' 47 0 (by decide), f' 2 0 (by decide)]; exact x6, by rw [f 221 50 (by omega)]; exact x7, x8.st (TX.rd rd) (fun g i y z => f g i (by omega)) (fun _ _ => rfl), by rw [f' 16 0 (by decide)]; exact x9⟩
def opN (τ : St) (d at0 r op b kR num : Int) : St := nwF (se (nwN (se (sf (sf τ 13 0 (op + 1)) 2 0 (at0 + 1)) 72 d b) kR at0) 73 d r) 10 (-1) num
/-- the reference opens a sign -/
theorem r_open {σ τ : St} {st cl d at0 r op b kR : Int} (h : XB σ τ st cl) (h2 : fl τ 2 0 = at0 ∧ 0 ≤ at0 ∧ at0 ≤ cl) (h13 : fl τ 13 0 = op) (hop : 0 ≤ op ∧ op < 20) (h16 : fl τ 16 0 = r ∧ 0 ≤ r ∧ r < 32768) (hF : FR12 τ d 12 0) (hb : bA τ at0 = b) (hk : (b = 91 ∧ kR = 25) ∨ (b = 60 ∧ kR = 26) ∨ (b = 123 ∧ kR = 27)) : rdK N 12 τ d = some (opN τ d at0 r op b kR (if b = 91 then 0 else r + 1)) := by
  obtain ⟨f1, f2, f3, f4, f5⟩ := hF
  have a0 := h.1
  have size := a0.2.2.1
  have b5 := h.2.1.2.2.2.2
  have i1 : i32 b := by rcases hk with q | q | q <;> rw [q.1] <;> decide
  have nl : ¬ isLt b := by unfold isLt; omega
  have nd : ¬ isDg b := by unfold isDg; omega
  have bk : ¬ b = 45 ∧ ¬ b = 126 := by omega
  obtain ⟨τa, hτa⟩ : ∃ τa, τa = se (sf (sf τ 13 0 (op + 1)) 2 0 (at0 + 1)) 72 d b := ⟨_, rfl⟩
  have ta : ∀ f i, f ≠ 13 → f ≠ 2 → fl τa f i = fl τ f i := fun f i y z => by rw [hτa, fl_se, fl_sfn _ _ _ _ z, fl_sfn _ _ _ _ y]
  have n16 : fl τa 16 0 = r := by rw [ta 16 0 (by decide) (by decide)]; exact h16.1
  have e255 : r_readPart_255 N τ d b at0 = r_readPart_311 N τa d b at0 kR d := by
    rw [r_readPart_255, r_isOpen, h13, grd_t (by exact ⟨by omega, by omega⟩), if_neg (by omega), Option.bind_some]
    simp only
    rw [grd_t (by decide), if_neg (by decide), grd_t (by exact ⟨by omega, by omega⟩), grd_t i1, fl_sfn _ _ _ _ (by decide), h2.1, ← hτa]
    rcases hk with ⟨q, q'⟩ | ⟨q, q'⟩ | ⟨q, q'⟩
    · rw [if_pos q, q']
    · rw [if_neg (by omega), if_pos q, q']
    · rw [if_neg (by omega), if_neg (by omega), q']
  have e41 : fl (se (nwN τa kR at0) 73 d r) 41 0 = d + 1 := by rw [fl_se, nwN_fl _ _ _ _ _ (by decide), ta 41 0 (by decide) (by decide)]; exact f1
  have e311 : r_readPart_311 N τa d b at0 kR d = some (opN τ d at0 r op b kR (if b = 91 then 0 else r + 1)) := by
    rw [r_readPart_311, r_node' (by rw [n16]; omega), Option.bind_some, n16]
    simp only
    rw [grd_t (by exact ⟨by omega, by omega⟩), grd_t i1]
    by_cases c : b = 91
    · rw [if_pos c, if_pos c, r_readPart_338, r_begin' (by rw [e41]; omega), Option.bind_some, hτa]; rfl
    · rw [if_neg c, if_neg c, bnd, grd_t (by exact ⟨by omega, by omega⟩), el_ses, r_readPart_338, r_begin' (by rw [e41]; omega), Option.bind_some, hτa]; rfl
  have e : rdK N 12 τ d = r_readPart N τ d := by unfold rdK; simp
  rw [e, r_readPart, h2.1, rr_byteAt a0 (by exact ⟨by omega, by omega⟩), Option.bind_some, grd_t (by exact ⟨f2.1, by omega⟩)]
  simp only
  rw [f4, grd_t (by decide), if_neg (by decide), hb, rr_isLow i1, if_neg nl, Option.bind_some, grd_t (by decide), if_pos rfl, rr_isDigit i1, if_neg nd, Option.bind_some, grd_t (by decide), if_pos rfl, grd_t i1, if_neg bk.1, if_neg bk.2, h2.1, e255, e311]
  rcases hk with ⟨q, q'⟩ | ⟨q, q'⟩ | ⟨q, q'⟩
  · rw [if_pos q]
  · rw [if_neg (by omega), if_pos q]
  · rw [if_neg (by omega), if_neg (by omega), if_pos q]
/-- what stands in it -/
theorem opN_v {τ : St} {d at0 r op b kR num : Int} (h41 : fl τ 41 0 = d + 1) (h16 : fl τ 16 0 = r) (τ2 : St) (h : τ2 = opN τ d at0 r op b kR num) : (fl τ2 41 0 = d + 2 ∧ fl τ2 16 0 = r + 1 ∧ fl τ2 13 0 = op + 1 ∧ fl τ2 2 0 = at0 + 1) ∧ (∀ (f : Nat) (i : Int), f ≠ 41 → f ≠ 16 → f ≠ 13 → f ≠ 2 → fl τ2 f i = fl τ f i) ∧ (el τ2 74 d = el τ 74 d ∧ el τ2 73 d = r ∧ el τ2 72 d = b ∧ el τ2 74 (d + 1) = 10 ∧ el τ2 72 (d + 1) = 0 ∧ el τ2 71 (d + 1) = num) ∧ (el τ2 94 r = kR ∧ el τ2 93 r = at0 ∧ el τ2 92 r = 0 ∧ el τ2 87 r = -1 ∧ el τ2 86 r = -1) ∧ RDr r d τ τ2 ∧ RDr r d (sf (sf τ 13 0 (op + 1)) 2 0 (at0 + 1)) τ2 := by
  obtain ⟨τa, hτa⟩ : ∃ τa, τa = se (sf (sf τ 13 0 (op + 1)) 2 0 (at0 + 1)) 72 d b := ⟨_, rfl⟩
  have ta : ∀ f i, f ≠ 13 → f ≠ 2 → fl τa f i = fl τ f i := fun f i y z => by rw [hτa, fl_se, fl_sfn _ _ _ _ z, fl_sfn _ _ _ _ y]
  have n16 : fl τa 16 0 = r := by rw [ta 16 0 (by decide) (by decide)]; exact h16
  have e41 : fl (se (nwN τa kR at0) 73 d r) 41 0 = d + 1 := by rw [fl_se, nwN_fl _ _ _ _ _ (by decide), ta 41 0 (by decide) (by decide)]; exact h41
  have h' : τ2 = nwF (se (nwN τa kR at0) 73 d r) 10 (-1) num := by rw [h, hτa]; rfl
  have f2 : ∀ f i, f ≠ 41 → f ≠ 16 → fl τ2 f i = fl τa f i := fun f i y z => by rw [h', nwF_fl _ _ _ _ _ _ y, fl_se, nwN_fl _ _ _ _ _ z]
  have el2 : ∀ a i : Int, ¬ (71 ≤ a ∧ a ≤ 74 ∧ i = d + 1) → ¬ (a = 73 ∧ i = d) → el τ2 a i = el (nwN τa kR at0) a i := fun a i y z => by
    rw [h', nwF_el _ _ _ _ _ _ (by rw [e41]; exact y), el_se, if_neg z]
  have v := nwN_v τa kR at0
  rw [n16] at v
  have v2 := nwF_v (se (nwN τa kR at0) 73 d r) 10 (-1) num
  rw [← h', e41] at v2
  have rdb : RDr r d (sf (sf τ 13 0 (op + 1)) 2 0 (at0 + 1)) τ2 := by
    rw [h']
    refine nwF_rd ((nwN_rd ?_ kR at0 (by rw [n16]; exact Int.le_refl _)).sp 73 d r (by omega) (Int.le_refl _)) _ _ _ (by rw [e41]; omega)
    rw [hτa]; exact (RDr.rf _ _ _).sp 72 d b (by omega) (Int.le_refl _)
  refine ⟨⟨by rw [h', nwF_41, e41]; omega, by rw [h', nwF_fl _ _ _ _ _ _ (by decide), fl_se, nwN_16, n16], ?_, ?_⟩, fun f i y1 y2 y3 y4 => by rw [f2 f i y1 y2, ta f i y3 y4], ⟨?_, ?_, ?_, v2.1, v2.2.2.1, v2.2.2.2⟩, ⟨by rw [el2 94 r (by omega) (by omega)]; exact v.1, by rw [el2 93 r (by omega) (by omega)]; exact v.2.1, by rw [el2 92 r (by omega) (by omega)]; exact v.2.2.1, by rw [el2 87 r (by omega) (by omega)]; exact v.2.2.2.2.2.2.2.1, by rw [el2 86 r (by omega) (by omega)]; exact v.2.2.2.2.2.2.2.2.1⟩, ?_, rdb⟩
  · rw [f2 13 0 (by decide) (by decide), hτa, fl_se, fl_sfn _ _ _ _ (by decide), fl_sfs]
  · rw [f2 2 0 (by decide) (by decide), hτa, fl_se, fl_sfs]
  · rw [el2 74 d (by omega) (by omega), nwN_el _ _ _ _ _ (by omega), hτa, el_sen _ _ _ _ (by decide)]; rfl
  · rw [h', nwF_el _ _ _ _ _ _ (by rw [e41]; omega), el_ses]
  · rw [el2 72 d (by omega) (by omega), nwN_el _ _ _ _ _ (by omega), hτa, el_ses]
  · exact (((RDr.rf _ _ τ).sf 13 _ (by omega)).sf 2 _ (by omega)).tr rdb (Int.le_refl _) (Int.le_refl _)
set_option maxHeartbeats 4000000 in
/-- a row that has its node: its steps -/
theorem row_open {D P st cl d op at0 r b kd kR : Int} {L : List Stq} {Kn : List Int} {π : Sh} {σ τ : St} {rP : Sh → St → Option (Sh × St × Int)} (hN : 30000001 ≤ N) (h : XS Xo π σ τ D P L Kn st cl) (hop : fl τ 13 0 = op) (hop' : 0 ≤ op ∧ op < 20) (hPT : PTH N D P Kn st cl rP (op + 1)) (hF : FR12 τ d 12 0) (hd : d ≤ 10 * op + 20) (hat : fl τ 2 0 = at0) (hr : fl τ 16 0 = r) (hb : bA τ at0 = b) (hk : (b = 60 ∧ kd = 5 ∧ kR = 26) ∨ (b = 123 ∧ kd = 6 ∧ kR = 27)) (hL : (L.length : Int) + 2 * (cl + 1 - at0) + 4 * (21 - op) ≤ 19000) (hM : r + 3 * (cl + 1 - at0) + 8 * (21 - op) ≤ 32768) : ∃ π1 σ1 τ2 π' σ' τ' k, Sp_init N (nO π 10 14) (zO (sf σ 184 1 (op + 1)) (nn π) dfl) (nn π) kd at0 = some (π1, σ1) ∧ ob (nO π 10 14) (nn π) 10 ∧ fl σ1 222 50 = at0 ∧ Tx_steps N rP π1 (sf σ1 222 50 (at0 + 1)) (nn π) = some (π', σ') ∧ RLp N k τ τ' ∧ STo Xo N D P L Kn st cl r r (d + 1) (at0 + 1) (r + 1) kd kR at0 (nn π) π σ τ2 π' σ' τ' ∧ fl τ2 13 0 = op + 1 ∧ RDr r d τ τ2 ∧ (el τ2 74 d = 12 ∧ el τ2 73 d = r ∧ el τ2 72 d = b) ∧ (fl τ' 11 0 = 0 → (k : Int) ≤ 8 * (fl τ' 2 0 - (at0 + 1)) + 2) ∧ (k : Int) ≤ 8 * (cl + 1 - (at0 + 1)) + 8 * (20 - op) + 6 ∧ at0 + 1 ≤ cl := by
  obtain ⟨x1, x2, x3, ⟨x4, x4'⟩, x5, x6, x7, x8, x9⟩ := id h
  obtain ⟨a0, ⟨b1, b2, b3, b4, b5⟩, e0, d0⟩ := id x2
  have size := a0.2.2.1
  have n56 := x1.1
  have N3 : 3000 ≤ N := by omega
  obtain ⟨dd1, dd2, dd3, dd4, dd5⟩ := x8.b
  obtain ⟨F1, F2, F3, F4, F5⟩ := id hF
  have s222 : fl σ 222 50 = at0 := by rw [← x3]; exact hat
  rw [s222] at b3 b4
  have acl : at0 < cl := by
    by_cases c : at0 < cl
    · exact c
    · rw [show at0 = cl by omega, e0] at hb; omega
  rw [hr] at x9
  obtain ⟨τ2, hτ2⟩ : ∃ τ2, τ2 = opN τ d at0 r op b kR (r + 1) := ⟨_, rfl⟩
  have r1 : RLp N 1 τ τ2 := by
    refine RLp.one F1 ⟨by omega, by omega⟩ x4' ⟨F3, by decide, by decide⟩ ?_
    rw [r_open (kR := kR) x2 ⟨hat, by omega, by omega⟩ hop hop' ⟨hr, x9, by omega⟩ hF hb (by omega), if_neg (by omega), hτ2]
  obtain ⟨⟨v41, v16, v13, v2⟩, vf, ⟨w74, w73, w72, u74, u72, u71⟩, ⟨m94, m93, m92, m87, m86⟩, rd, rd'⟩ := opN_v F1 hr τ2 hτ2
  obtain ⟨σo, hσo⟩ : ∃ σo, σo = sf σ 184 1 (op + 1) := ⟨_, rfl⟩
  obtain ⟨τo, hτo⟩ : ∃ τo, τo = sf τ 13 0 (op + 1) := ⟨_, rfl⟩
  have ho : XS Xo π σo τo D P L Kn st cl := by rw [hσo, hτo]; exact h.op ⟨by omega, by omega⟩
  rw [← hτo] at rd'
  have go : ∀ (f : Nat) (i : Int), ¬ (f = 184 ∧ i = 1) → fl σo f i = fl σ f i := fun f i hx => by rw [hσo, fl_sf, if_neg hx]
  obtain ⟨π1, σ1, q1, q2, q3, q4, q5, q6, q7, q8⟩ := c_row (N := N) (kd := kd) (place := at0) ho
  have at1 : fl σ1 222 50 = at0 := by rw [q5.2.1 222 50 (by omega), go 222 50 (by omega)]; exact s222
  obtain ⟨σ2, hσ2⟩ : ∃ σ2, σ2 = sf σ1 222 50 (at0 + 1) := ⟨_, rfl⟩
  have h1 := q3.at (k := at0 + 1) (by rw [at1]; omega)
  rw [← hσ2] at h1
  have f12 : fl τ2 2 0 = fl (sf τo 2 0 (at0 + 1)) 2 0 := by rw [v2, fl_sfs]
  have h2 : XS (XR Xo σ1 (nn π)) π1 σ2 τ2 D P L Kn st cl := by
    refine h1.rd rd' ⟨f12, ?_, ?_, ?_, by rw [v16]; omega⟩
    · rw [vf 11 0 (by decide) (by decide) (by decide) (by decide), fl_sfn _ _ _ _ (by decide), hτo, fl_sfn _ _ _ _ (by decide)]
    · rw [v13, fl_sfn _ _ _ _ (by decide), hτo, fl_sfs]
    · rw [vf 47 0 (by decide) (by decide) (by decide) (by decide), fl_sfn _ _ _ _ (by decide), hτo, fl_sfn _ _ _ _ (by decide)]
  obtain ⟨k, z1, z2, z3, z4, z5, z6⟩ := h2.xb.skip (N := N) N3
  have at2 : fl σ2 222 50 = at0 + 1 := by rw [hσ2, fl_sfs]
  rw [at2] at z4
  obtain ⟨σ3, hσ3⟩ : ∃ σ3, σ3 = sf σ2 222 50 k := ⟨_, rfl⟩
  obtain ⟨τ3, hτ3⟩ : ∃ τ3, τ3 = sf τ2 2 0 k := ⟨_, rfl⟩
  rw [← hσ3] at z1 z3
  rw [← hτ3] at z2 z3
  have xf3 : XFc σ1 σ3 := by rw [hσ3, hσ2]; exact ((XFc.rf σ1).at _).at _
  have t3 : ∀ (f : Nat) (i : Int), f ≠ 2 → fl τ3 f i = fl τ2 f i := fun f i hx => by rw [hτ3, fl_sfn _ _ _ _ hx]
  -- the reference begins the steps
  obtain ⟨τ4, hτ4⟩ : ∃ τ4, τ4 = nwF (se (se τ3 73 (d + 1) r) 72 (d + 1) 1) 11 (-1) 0 := ⟨_, rfl⟩
  have e41 : fl (se (se τ3 73 (d + 1) r) 72 (d + 1) 1) 41 0 = d + 2 := by rw [fl_se, fl_se, t3 41 0 (by decide)]; exact v41
  have rrd : rdK N 10 τ2 (d + 1) = some τ4 := by
    have e : rdK N 10 τ2 (d + 1) = r_readSeq N τ2 (d + 1) := by unfold rdK; simp
    rw [e, r_readSeq, grd_t (by exact ⟨by omega, by omega⟩), u72, grd_t (by decide), if_pos rfl, z2, Option.bind_some, show el τ3 71 (d + 1) = r + 1 by rw [hτ3, el_sf]; exact u71, grd_t (by exact ⟨by omega, by omega⟩), if_neg (by omega), show r + 1 - 1 = r by omega, r_readSeq_55, grd_t (by exact ⟨by omega, by omega⟩), bnd, r_begin' (by rw [e41]; omega), Option.bind_some, hτ4]
  have r2 : RLp N 1 τ2 τ4 := RLp.one (by rw [v41]; omega) ⟨by omega, by omega⟩ (by rw [vf 11 0 (by decide) (by decide) (by decide) (by decide)]; exact x4') ⟨u74, by decide, by decide⟩ rrd
  have f4 : ∀ (f : Nat) (i : Int), f ≠ 41 → fl τ4 f i = fl τ3 f i := fun f i y => by rw [hτ4, nwF_fl _ _ _ _ _ _ y, fl_se, fl_se]
  have el4 : ∀ a i : Int, ¬ (71 ≤ a ∧ a ≤ 74 ∧ d + 1 ≤ i) → el τ4 a i = el τ2 a i := fun a i y => by
    rw [hτ4, nwF_el _ _ _ _ _ _ (by rw [e41]; omega), el_se, if_neg (by omega), el_se, if_neg (by omega), hτ3, el_sf]
  have v4 := nwF_v (se (se τ3 73 (d + 1) r) 72 (d + 1) 1) 11 (-1) 0
  rw [← hτ4, e41] at v4
  have hdf : HDf τ4 (d + 1) r := by
    refine ⟨by rw [hτ4, nwF_41, e41]; omega, ?_, ?_, ?_, by rw [show d + 1 + 1 = d + 2 by omega]; exact v4.1, by rw [show d + 1 + 1 = d + 2 by omega]; exact v4.2.2.1⟩
    · rw [hτ4, nwF_el _ _ _ _ _ _ (by rw [e41]; omega), el_sen _ _ _ _ (by decide), el_sen _ _ _ _ (by decide), hτ3, el_sf]; exact u74
    · rw [hτ4, nwF_el _ _ _ _ _ _ (by rw [e41]; omega), el_ses]
    · rw [hτ4, nwF_el _ _ _ _ _ _ (by rw [e41]; omega), el_sen _ _ _ _ (by decide), el_ses]
  have rd4 : RDr r (d + 1) τ2 τ4 := ⟨fun f i a1 a2 a3 a4 a5 => by rw [f4 f i a3, t3 f i (by omega)], fun a j y _ => el4 a j (by omega), fun a j y z _ => el4 a j (by omega), fun a j y z w => el4 a j (by omega)⟩
  have rd34 : RDr r (d + 1) τ3 τ4 := ⟨fun f i a1 a2 a3 a4 a5 => f4 f i a3, fun a j y _ => by rw [el4 a j (by omega), hτ3, el_sf], fun a j y z _ => by rw [el4 a j (by omega), hτ3, el_sf], fun a j y z w => by rw [el4 a j (by omega), hτ3, el_sf]⟩
  have e42 : fl τ4 2 0 = k := by rw [f4 2 0 (by decide), hτ3, fl_sfs]
  have e416 : fl τ4 16 0 = r + 1 := by rw [f4 16 0 (by decide), t3 16 0 (by decide)]; exact v16
  have xr : XR Xo σ3 (nn π) = XR Xo σ1 (nn π) := XR.eq (fun f _ _ => xf3.1 f (nn π) (by omega) (by omega))
  have xs4 : XS (XR Xo σ3 (nn π)) π1 σ3 τ4 D P L Kn st cl := by
    rw [xr]
    exact z3.rd rd34 ⟨f4 2 0 (by decide), f4 11 0 (by decide), f4 13 0 (by decide), f4 47 0 (by decide), by rw [e416]; omega⟩
  have ft1 : XFt (fl σ 23 D) π σ π1 σ1 := ((XFt.rf _ π σ).st (σ2 := σo) (fun f i y z => go f i (by omega)) (fun a j => by rw [hσo]; rfl) (by omega)).nw q5 (Int.le_refl _) dd2.2
  have ft3 : XFt (fl σ 23 D) π σ π1 σ3 := ft1.xf xf3 (by omega)
  have e23 : fl σ3 23 D = fl σ 23 D := by rw [xf3.1 23 D (by omega) (by omega), q5.2.1 23 D (by omega), go 23 D (by omega)]
  have cp3 : cpc π1 σ3 (fl σ 23 D) = cpc π σ (fl σ 23 D) := by
    unfold cpc
    rw [xf3.1 1 _ (by omega) (by omega), q5.2.1 1 _ dd2.2, go 1 _ (by omega)]
    by_cases c : fl σ 1 (fl σ 23 D) < 0
    · rw [if_pos c, if_pos c]
    · rw [if_neg c, if_neg c, (q5.1.2.2 _ dd4).2]
  have sc : SCo Xo N D P L Kn st cl r r (d + 1) (at0 + 1) (r + 1) kd kR at0 (nn π) π σ τ2 π1 σ3 τ4 [] 0 := by
    refine sc_nil xs4 (q4.xf xf3).1 (by rw [el4 87 r (by omega)]; exact m87) ft3 rd4 (by rw [f4 13 0 (by decide), t3 13 0 (by decide)]) ⟨by omega, Int.le_refl _, by omega, by rw [e416]; exact Int.le_refl _⟩ ⟨by rw [el4 94 r (by omega)]; exact m94, by rw [el4 93 r (by omega)]; exact m93, by rw [el4 92 r (by omega)]; exact m92⟩ e23 (by rw [e42]; exact z4.1) (by rw [e416, e42]; omega) (by rw [e42]; omega) ?_
    rw [e42, cp3, xf3.1 210 (nn π) (by omega) (by omega), q8]
    omega
  obtain ⟨π', σ', τ', k3, p1, p2, p3, p4, p5⟩ := steps_lp (N := N) (Xo := Xo) (op := op + 1) hN v13 hPT (by omega) (by omega) (by omega) (by omega) (by omega) ⟨dd2.2, dd1.2⟩ ((cl - k).toNat + 1) N π1 σ3 τ4 [] 0 (by rw [e42]; omega) (by omega) sc hdf
  rw [e42] at p4 p5
  refine ⟨π1, σ1, τ2, π', σ', τ', 1 + 1 + k3, by rw [← hσo]; exact q1, q2, at1, ?_, (r1.tr r2).tr p2, p3, v13, rd, ⟨by rw [w74]; exact F3, w73, w72⟩, fun e => by have := p4 e; omega, by omega, by omega⟩
  rw [Tx_steps, ← hσ2, z1, Option.bind_some]; exact p1
end OP
