/-! the signs * and / behind a part -/
section CF
variable {N : Nat} {Xo : Int → Prop}
theorem ch_fast {π : Sh} {σ τ : St} {D P st cl lo d j o n u v sg : Int} {L seg : List Stq} {Kn : List Int} {k : Nat} {rc : Sh → St → Int → Int → Option (Sh × St × Int)} {x3 : Int} (hN : 30000001 ≤ N) (h : XS Xo π σ τ D P L Kn st cl) (hL : L.length ≤ 19000 ∧ (L.length : Int) = j + seg.length) (hn : fl τ 16 0 + 3 ≤ 32768) (hlo : 0 ≤ lo ∧ lo ≤ n ∧ n < fl τ 16 0) (ht : TXq N τ lo (fl τ 16 0) P j seg n o u v k) (huv : 1 ≤ u ∧ 1 ≤ v) (hsg : sg = 42 ∨ sg = 47) (hb : bA τ (fl σ 222 50) = sg) : ∃ π' σ' τ', Tx_mods_51 N rc π σ o x3 (fl σ 222 50) sg = rc π' σ' (P + L.length) (x3 + 1) ∧ r_readChange N τ sg n = some (τ', fl τ 16 0) ∧ CHo Xo N D P L Kn st cl lo d j seg u v k π σ τ π' σ' τ' (P + L.length) (fl τ 16 0) := by
  obtain ⟨x1, x2, x3', ⟨x4, x4'⟩, x5, x6, x7, x8, x9⟩ := id h
  obtain ⟨a0, ⟨b1, b2, b3, b4, b5⟩, c0, d0⟩ := id x2
  have size := a0.2.2.1
  obtain ⟨e1, e2, e3, e4, e5⟩ := x8.b
  have n56 := x1.1
  have hP := x8.1.2.2
  have acl : fl σ 222 50 < cl := by
    by_cases c : fl σ 222 50 < cl
    · exact c
    · rw [show fl σ 222 50 = cl by omega, c0] at hb; omega
  obtain ⟨at0, hat0⟩ : ∃ at0, at0 = fl σ 222 50 := ⟨_, rfl⟩
  rw [← hat0] at acl ⊢
  have t2 : fl τ 2 0 = at0 := by rw [x3', hat0]
  obtain ⟨σa, hσa⟩ : ∃ σa, σa = sf σ 222 50 (at0 + 1) := ⟨_, rfl⟩
  have gf : ∀ f i, ¬ (f = 222 ∧ i = 50) → fl σa f i = fl σ f i := fun f i hx => by rw [hσa, fl_sf, if_neg hx]
  have xa : XFc σ σa := by rw [hσa]; exact (XFc.rf σ).at _
  have ga : fl σa 222 50 = at0 + 1 := by rw [hσa, fl_sfs]
  -- the reference's node
  obtain ⟨kd, hkd⟩ : ∃ kd : Int, kd = if sg = 42 then 28 else 29 := ⟨_, rfl⟩
  obtain ⟨τ1, hτ1⟩ : ∃ τ1, τ1 = nwN (sf τ 2 0 (at0 + 1)) kd at0 := ⟨_, rfl⟩
  have n16 : fl (sf τ 2 0 (at0 + 1)) 16 0 = fl τ 16 0 := fl_sfn _ _ _ _ (by decide)
  obtain ⟨m, hm⟩ : ∃ m, m = fl τ 16 0 := ⟨_, rfl⟩
  have vv := nwN_v (sf τ 2 0 (at0 + 1)) kd at0
  rw [n16, ← hm, ← hτ1] at vv
  have f1 : ∀ f i, f ≠ 2 → f ≠ 16 → fl τ1 f i = fl τ f i := fun f i y1 y2 => by rw [hτ1, nwN_fl _ _ _ _ _ y2, fl_sfn _ _ _ _ y1]
  have f12 : fl τ1 2 0 = at0 + 1 := by rw [hτ1, nwN_fl _ _ _ _ _ (by decide), fl_sfs]
  have f116 : fl τ1 16 0 = m + 1 := by rw [hτ1, nwN_16, n16, hm]
  have rd1 : RDr lo d τ τ1 := by rw [hτ1]; exact nwN_rd ((RDr.rf _ _ τ).sf 2 _ (by omega)) _ _ (by rw [n16]; omega)
  have xb1 : XB σa τ1 st cl := x2.mv rd1 ⟨gf 181 1 (by omega), gf 223 50 (by omega), fun j => xa.2 2 j⟩ (by rw [ga]; omega)
  -- the number
  obtain ⟨σb, τ2, w, w', r1, r2, r3, r4, r5, r6, r7, r8, r9, r10, r11⟩ := both_num (N := N) (π := π) (a := 1) (b := 32) (by omega) xb1 (by rw [f12, ga]) (by rw [gf 182 1 (by omega)]; exact x4) (by rw [f1 11 0 (by decide) (by decide)]; exact x4') ⟨⟨by decide, by decide⟩, by decide⟩
  have xb2 : XFc σ σb := xa.tr r3
  have gfb : ∀ f i, ¬ (i = 50 ∧ (f = 222 ∨ f = 225)) → ¬ (i = 1 ∧ (f = 182 ∨ f = 183)) → fl σb f i = fl σ f i := fun f i y z => xb2.1 f i y z
  have bdb : BDy Xo π σb τ D P L Kn := x8.st (TX.rf τ) (fun f i y z => xb2.1 f i (by omega) (by omega)) xb2.2
  have k23 : fl σb 23 D = fl σ 23 D := gfb 23 D (by omega) (by omega)
  obtain ⟨a, ha⟩ : ∃ a : Int, a = if sg = 42 then w else 1 := ⟨_, rfl⟩
  obtain ⟨b, hb'⟩ : ∃ b : Int, b = if sg = 42 then 1 else w := ⟨_, rfl⟩
  obtain ⟨π1, σ1, s1, s2, s3, s4, s5, s6, s7, s8⟩ := c_spInitB (N := N) (π := π) (σ := σb) (kd := 9) (place := at0) (a := a) (b := b)
  obtain ⟨π2, σ2, π3, σ3, p1, p2, p3, p4, p5, p6, p7, p8, p9, p10⟩ := c_one1 (N := N) (K := 9) (a := a) (b := b) (c := 0) (o := o) x1 bdb (by omega) π1 σ1 s2 s5 s6 s7 s8 ⟨by decide, by decide, by decide, by decide, by decide, by decide⟩ rfl (by rw [if_neg (by decide)]) (fun h => by omega)
  rw [k23] at p5 p7
  have i32w : i32 w := r10
  have cls : Tx_mods_51 N rc π σ o x3 at0 sg = rc π3 σ3 (P + L.length) (x3 + 1) := by
    have e108 : Tx_mods_108 N rc (nO π 10 14) (zO σb (nn π) dfl) o x3 b a at0 9 (nn π) (nn π) D = rc π3 σ3 (P + L.length) (x3 + 1) := by
      rw [Tx_mods_108, s1, Option.bind_some, grd_t (ob_nO π 10 14), Tx_mods_111, p1, Option.bind_some, grd_t p2, Tx_mods_115, p3, Option.bind_some, grd_t p4, Tx_mods_118, Tx_mods_203]
    rw [Tx_mods_51, bnd, ← hat0, ← hσa, r1, Option.bind_some]
    simp only
    rw [gfb 221 50 (by omega) (by omega), x7, Tx_mods_77, grd_t (by rcases hsg with q | q <;> rw [q] <;> decide)]
    rcases hsg with q | q
    · rw [if_pos q, Tx_mods_95, grd_t (by rw [q]; decide), if_pos q]
      rw [ha, hb', if_pos q, if_pos q] at e108; exact e108
    · rw [if_neg (by omega), Tx_mods_95, grd_t (by rw [q]; decide), if_neg (by omega)]
      rw [ha, hb', if_neg (by omega), if_neg (by omega)] at e108; exact e108
  have ft : XFt (fl σ 23 D) π σ π3 σ3 := ((XFt.rf (fl σ 23 D) π σ).xf xb2 (by omega)).tr p5
  have rm : RmX (fl σ 23 D) π σ π3 σ3 4 40 := by
    have cc : cpc π σb (fl σ 23 D) = cpc π σ (fl σ 23 D) := by unfold cpc; rw [gfb 1 _ (by omega) (by omega)]
    exact ⟨by have := p7.1; omega, by have := p7.2; omega⟩
  have z3 : ∀ f i, i < 56 → ¬ (i = 50 ∧ (f = 222 ∨ f = 225)) → ¬ (i = 1 ∧ (f = 182 ∨ f = 183)) → fl σ3 f i = fl σ f i := fun f i hi y z => by rw [p9 f i hi]; exact gfb f i y z
  -- the reference goes on
  obtain ⟨τ3, hτ3⟩ : ∃ τ3, τ3 = se τ2 92 m w' := ⟨_, rfl⟩
  have e2' : ∀ x i, el τ2 x i = el τ1 x i := r4.2
  have e87 : el τ3 87 m = -1 := by rw [hτ3, el_sen _ _ _ _ (by decide), e2']; exact vv.2.2.2.2.2.2.2.1
  obtain ⟨τ', hτ'⟩ : ∃ τ', τ' = apN τ3 m n := ⟨_, rfl⟩
  have rr : r_readChange N τ sg n = some (τ', m) := by
    have e112 : r_readChange_112 N (sf τ 2 0 (at0 + 1)) n at0 kd = some (τ', m) := by
      rw [r_readChange_112, r_node' (by rw [n16]; omega), Option.bind_some, n16, ← hm, ← hτ1, r2, Option.bind_some, grd_t (by exact ⟨by omega, by omega⟩), r_readChange_132]
      simp only
      rw [← hτ3, r_append' (by exact ⟨by omega, by omega⟩) (by exact ⟨by omega, by omega⟩) (Or.inl e87) (by rw [e87]; decide), Option.bind_some, hτ']
    rw [r_readChange, grd_t (by rcases hsg with q | q <;> rw [q] <;> decide), if_neg (by omega), if_neg (by omega), t2]
    rcases hsg with q | q
    · rw [if_pos q]; rw [hkd, if_pos q] at e112; exact e112
    · rw [if_neg (by omega)]; rw [hkd, if_neg (by omega)] at e112; exact e112
  have rd2 : RDr lo d τ τ2 := rd1.xf r4
  have rd3 : RDr lo d τ τ3 := by rw [hτ3]; exact rd2.sn 92 m _ (by omega) (by omega)
  have rd' : RDr lo d τ τ' := by rw [hτ']; exact apN_rd rd3 ⟨by omega, by omega, Or.inl e87⟩
  have fv' : ∀ f i, fl τ' f i = fl τ2 f i := fun f i => by rw [hτ', apN_fl, hτ3, fl_se]
  have fv : ∀ f i, f ≠ 2 → f ≠ 16 → f ≠ 4 → f ≠ 11 → f ≠ 12 → fl τ' f i = fl τ f i := fun f i y1 y2 y3 y4 y5 => by rw [fv', r4.1 f i y1 y3 y4 y5, f1 f i y1 y2]
  have fv16 : fl τ' 16 0 = m + 1 := by rw [fv', r4.1 16 0 (by decide) (by decide) (by decide) (by decide), f116]
  have apv : ∀ x i, ¬ (x = 87 ∧ i = m) → ¬ (x = 86 ∧ i = m) → ¬ (x = 85 ∧ i = n) → el τ' x i = el τ3 x i := fun x i y1 y2 y3 => by
    rw [hτ']
    unfold apN
    rw [if_pos e87, el_se, if_neg (by omega), el_se, if_neg (by omega), el_se, if_neg (by omega)]
  refine ⟨π3, σ3, τ', cls, by rw [← hm]; exact rr, ft, rd', fv 41 0 (by decide) (by decide) (by decide) (by decide) (by decide), ?_⟩
  have xc : XC Xo π3 σ3 τ' D P (L ++ [(9, at0, a, b, 0, 0, 0, [(o, 1, 1)])]) Kn st cl := by
    refine ⟨p8, x2.mv rd' ⟨z3 181 1 (by omega) (by omega) (by omega), z3 223 50 (by omega) (by omega) (by omega), fun j => by rw [p10 j]; exact xb2.2 2 j⟩ (by rw [p9 222 50 (by omega)]; exact ⟨r5.2.1.2.2.1, r5.2.1.2.2.2.1⟩), by rw [z3 221 50 (by omega) (by omega) (by omega)]; exact x7, ?_⟩
    exact p6.mv (HP.rf _ _) (TX.rd rd') ⟨rfl, rfl, rfl⟩ (fun _ _ _ _ => rfl) (fun _ _ _ _ => rfl)
  rcases r11 with flt | ⟨o1, o2, o3, o4, o5, o6⟩
  · refine Or.inl ⟨?_, ⟨_, xc, by rw [List.length_append]; simp⟩, ⟨by omega, by omega, by omega, by omega⟩, rm⟩
    unfold FLT at flt ⊢
    rw [p9 182 1 (by omega), p9 183 1 (by omega), fv', fv']
    exact flt
  · have a92 : el τ' 92 m = w := by rw [apv 92 m (by omega) (by omega) (by omega), hτ3, el_ses, o3]
    have a94 : el τ' 94 m = kd := by rw [apv 94 m (by omega) (by omega) (by omega), hτ3, el_sen _ _ _ _ (by decide), e2']; exact vv.1
    have a93 : el τ' 93 m = at0 := by rw [apv 93 m (by omega) (by omega) (by omega), hτ3, el_sen _ _ _ _ (by decide), e2']; exact vv.2.1
    have a87 : el τ' 87 m = n := by
      rw [hτ']
      unfold apN
      rw [if_pos e87, el_sen _ _ _ _ (by decide), el_sen _ _ _ _ (by decide), el_ses]
    have qq := x6
    have at2 : fl τ' 2 0 = fl σ3 222 50 := by rw [fv', r7, p9 222 50 (by omega)]
    refine Or.inr ⟨(9, at0, a, b, 0, 0, 0, [(o, 1, 1)]), ⟨xc.1, xc.2.1, at2, ⟨by rw [p9 182 1 (by omega)]; exact o1, by rw [fv']; exact o2⟩, by rw [z3 184 1 (by omega) (by omega) (by omega), fv 13 0 (by decide) (by decide) (by decide) (by decide) (by decide)]; exact x5, ⟨by rw [z3 224 50 (by omega) (by omega) (by omega), fv 47 0 (by decide) (by decide) (by decide) (by decide) (by decide)]; exact x6.1, by rw [fv 47 0 (by decide) (by decide) (by decide) (by decide) (by decide)]; exact x6.2.1, ?_⟩, xc.2.2.1, xc.2.2.2, by omega⟩, fv 13 0 (by decide) (by decide) (by decide) (by decide) (by decide), rfl, by rw [fv16, hm], ?_, ?_, ?_, rm⟩
    · rw [fv 47 0 (by decide) (by decide) (by decide) (by decide) (by decide), fv', r7]; omega
    · rw [← hm, a94, hkd]; split <;> decide
    · rw [fv16]
      have := ch_tx (K := 9) (place := at0) (a := a) (b := b) (c := 0) (τ' := τ') (hi := m) hN hP.2 (by rw [hm]; exact ht) (by omega) huv (fun x i y1 y2 y3 y4 y5 => by
        rw [apv x i (by omega) (by omega) y5, hτ3, el_se, if_neg (by omega), e2', hτ1, nwN_el _ _ _ _ _ (by rw [n16]; omega), el_sf]) (by
        rw [a94, a92]
        rcases hsg with q | q
        · left; exact ⟨by rw [hkd, if_pos q], rfl, by rw [ha, if_pos q], by rw [hb', if_pos q], rfl⟩
        · right; left; exact ⟨by rw [hkd, if_neg (by omega)], rfl, by rw [ha, if_neg (by omega)], by rw [hb', if_neg (by omega)], rfl⟩) a93 a87 (by
        have : (1 ≤ a ∧ a ≤ 64) ∧ 1 ≤ b ∧ b ≤ 64 := by
          rcases hsg with q | q
          · rw [ha, hb', if_pos q, if_pos q]; omega
          · rw [ha, hb', if_neg (by omega), if_neg (by omega)]; omega
        unfold IV; simp; omega)
      rw [← hm, hL.2]
      exact this
    · rw [fv', r7]; omega
end CF
