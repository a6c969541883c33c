/-! a change of a part -/
section CG
variable {N : Nat} {Xo : Int → Prop}
/-- what making makes of a changed part -/
theorem ch_tx {τ τ' : St} {lo hi P j n o u v K place a b c : Int} {seg : List Stq} {k : Nat} (hN : 30000001 ≤ N) (hP : P ≤ 4) (h : TXq N τ lo hi P j seg n o u v k) (hlo : 0 ≤ lo ∧ lo ≤ n ∧ n < hi ∧ hi < 32768) (huv : 1 ≤ u ∧ 1 ≤ v) (ht : ∀ x i : Int, 85 ≤ x → x ≤ 94 → lo ≤ i → i < hi → ¬ (x = 85 ∧ i = n) → el τ' x i = el τ x i) (h94 : (el τ' 94 hi = 28 ∧ K = 9 ∧ el τ' 92 hi = a ∧ b = 1 ∧ c = 0) ∨ (el τ' 94 hi = 29 ∧ K = 9 ∧ a = 1 ∧ el τ' 92 hi = b ∧ c = 0) ∨ (el τ' 94 hi = 30 ∧ K = 8 ∧ el τ' 92 hi = a ∧ el τ' 91 hi = b ∧ el τ' 90 hi = c) ∨ (el τ' 94 hi = 31 ∧ K = 21 ∧ a = 500 ∧ el τ' 92 hi = b ∧ c = 0)) (h93 : el τ' 93 hi = place) (h87 : el τ' 87 hi = n) (hv : IV K a b c 0 [(o, 1, 1)]) : TXq N τ' lo (hi + 1) P j (seg ++ [(K, place, a, b, c, 0, 0, [(o, 1, 1)])]) hi (P + (j + seg.length)) (u + 1) v (k + 2) := And.intro (fun x hx => by
  rcases List.mem_append.1 hx with q | q
  · exact h.1 x q
  · have e : x = (K, place, a, b, c, 0, 0, [(o, 1, 1)]) := by simpa using q
    rw [e]; show K ≠ 99; omega) fun U ℓ vlo Kn y => by
  have hk : TXq N (se τ' 85 hi y) lo hi P j seg n o u v k := h.cg (fun x i x1 x2 x3 x4 x5 => by rw [el_se, if_neg (by omega)]; exact ht x i x1 x2 x3 x4 x5) ⟨Int.le_refl _, Int.le_refl _⟩ ⟨Int.le_refl _, Int.le_refl _, Nat.le_refl _⟩
  have nd : ND lo (hi + 1) hi := ⟨⟨by omega, by omega⟩, by omega, by omega⟩
  have e : ∀ x, x ≠ 85 → el (se τ' 85 hi y) x hi = el τ' x hi := fun x hx => el_sen _ _ _ _ hx
  exact mk_change hN hP nd (by rw [e 94 (by decide), e 92 (by decide), e 91 (by decide), e 90 (by decide)]; exact h94) (by rw [e 93 (by decide)]; exact h93) (by rw [e 87 (by decide)]; exact h87) hv (hk.use U ℓ vlo Kn) ⟨Int.le_refl _, by omega⟩ (by omega) (by omega) (by omega) (by omega) (by omega)
/-- a changed part, both: how it ends -/
def CHo (Xo : Int → Prop) (N : Nat) (D P : Int) (L : List Stq) (Kn : List Int) (st cl lo d j : Int) (seg : List Stq) (u v : Int) (k : Nat) (π : Sh) (σ τ : St) (π' : Sh) (σ' τ' : St) (o' n' : Int) : Prop := XFt (fl σ 23 D) π σ π' σ' ∧ RDr lo d τ τ' ∧ fl τ' 41 0 = fl τ 41 0 ∧
  ((FLT σ' τ' ∧ (∃ L', XC Xo π' σ' τ' D P L' Kn st cl ∧ (L'.length : Int) ≤ L.length + 1) ∧ (0 ≤ fl τ' 16 0 ∧ fl τ' 16 0 ≤ fl τ 16 0 + 1 ∧ (lo ≤ n' ∧ n' < fl τ' 16 0)) ∧ RmX (fl σ 23 D) π σ π' σ' 4 40) ∨
   ∃ x, XS Xo π' σ' τ' D P (L ++ [x]) Kn st cl ∧ fl τ' 13 0 = fl τ 13 0 ∧ n' = fl τ 16 0 ∧ fl τ' 16 0 = fl τ 16 0 + 1 ∧ (28 ≤ el τ' 94 n' ∧ el τ' 94 n' ≤ 31) ∧ TXq N τ' lo (fl τ' 16 0) P j (seg ++ [x]) n' o' (u + 1) v (k + 2) ∧ fl τ 2 0 < fl τ' 2 0 ∧ RmX (fl σ 23 D) π σ π' σ' 4 40)
/-- a step with one operand is added -/
theorem c_one1 {π : Sh} {σ τ : St} {D P place A B C o K a b c : Int} {L : List Stq} {Kn : List Int} (hS : SHs π) (h : BDy Xo π σ τ D P L Kn) (hL : L.length ≤ 20000) (π1 : Sh) (σ1 : St) (hf : FRn (nn π) π σ π1 σ1) (hF : FSp σ1 (nn π) (kcO K) place A B C 0 0 0 (-1)) (hO : OPs π1 σ1 (nn π) (nn π) []) (h212 : fl σ1 211 (nn π) = -1 ∧ fl σ1 212 (nn π) = -1 ∧ fl σ1 213 (nn π) = -1) (hcap : ln π1 (fl σ1 210 (nn π)) = 2) (hK : (8 ≤ K ∧ K ≤ 22 ∧ K ≠ 99 ∧ K ≠ 16 ∧ K ≠ 20 ∧ K ≠ 11)) (hA : A = a) (hB : B = if K = 21 ∨ K = 22 then 1000003 * b else b) (hC : K = 8 → C = c) : ∃ π2 σ2 π3 σ3, Sp_give N π1 σ1 (nn π) o = some (π2, σ2, (nn π : Int)) ∧ ob π1 (nn π) 10 ∧ Df_add N π2 σ2 D (nn π) = some (π3, σ3, P + L.length) ∧ ob π2 D 1 ∧ XFt (fl σ 23 D) π σ π3 σ3 ∧ BDy Xo π3 σ3 τ D P (L ++ [(K, place, a, b, c, 0, 0, [(o, 1, 1)])]) Kn ∧ RmX (fl σ 23 D) π σ π3 σ3 (nn π1 - nn π + 2) (sw π1 - sw π + 10) ∧ SHs π3 ∧ (∀ (f : Nat) (i : Int), i < 56 → fl σ3 f i = fl σ f i) ∧ (∀ j, el σ3 2 j = el σ 2 j) := by
  have n56 := hS.1
  have ng := hf.1.1
  obtain ⟨π2, σ2, g1, g2, g3, g4, g5, g6, g7, g8⟩ := c_give (N := N) (o := o) hO (by omega) (by simp) (1, 1)
  have fr2 : FRn (nn π) π σ π2 σ2 := hf.tr g2 (Int.le_refl _)
  have fsp : FSp σ2 (nn π) (kcO K) place A B C 0 0 0 (-1) := by
    obtain ⟨y0, y1, y2, y3, y4, y5, y6, y7, y8⟩ := hF
    exact ⟨by rw [g6 200 _ (by omega)]; exact y0, by rw [g6 201 _ (by omega)]; exact y1, by rw [g6 202 _ (by omega)]; exact y2, by rw [g6 203 _ (by omega)]; exact y3, by rw [g6 204 _ (by omega)]; exact y4, by rw [g6 205 _ (by omega)]; exact y5, by rw [g6 206 _ (by omega)]; exact y6, by rw [g6 207 _ (by omega)]; exact y7, by rw [g6 208 _ (by omega)]; exact y8⟩
  have sq : SQ π2 σ2 (nn π) (K, place, a, b, c, 0, 0, [(o, 1, 1)]) := Or.inr ⟨hK.2.2.1, mkSR g5 (by omega) (by simp) (mkCK fsp (by rw [g6 212 _ (by omega), h212.2.1]; decide) (by omega) (fun h => by omega) (fun _ _ _ => by rw [if_neg hK.2.2.2.2.2]; exact hA) (fun _ => hB) (fun h => hC (by omega)) (fun h => by omega)) fsp.2.1 ⟨fsp.2.2.2.2.2.2.1, Or.inl rfl⟩⟩
  obtain ⟨π3, σ3, q1, q2, q3, q4, q5, q6, q7, q8, q9⟩ := c_addNew (N := N) hS h hL fr2 sq (own_new g5 ⟨by rw [g6 211 _ (by omega)]; exact h212.1, by rw [g6 212 _ (by omega)]; exact h212.2.1, by rw [g6 213 _ (by omega)]; exact h212.2.2⟩)
  have g42 := g4.2
  rw [hcap, if_pos (by simp)] at g42
  have g41 := g4.1
  rw [hcap, g42] at g41
  exact ⟨π2, σ2, π3, σ3, g1, hO.1, q1, q2, q4, q5, q6.mono (by omega) (by omega), q7, q8, q9⟩
/-- the sign ? -/
theorem ch_maybe {π : Sh} {σ τ : St} {D P st cl lo d j o n u v : Int} {L seg : List Stq} {Kn : List Int} {k : Nat} {rc : Sh → St → Int → Int → Option (Sh × St × Int)} {x3 : Int} (hN : 30000001 ≤ N) (h : XS Xo π σ τ D P L Kn st cl) (hL : L.length ≤ 19000 ∧ (L.length : Int) = j + seg.length) (hn : fl τ 16 0 + 3 ≤ 32768) (hlo : 0 ≤ lo ∧ lo ≤ n ∧ n < fl τ 16 0) (ht : TXq N τ lo (fl τ 16 0) P j seg n o u v k) (huv : 1 ≤ u ∧ 1 ≤ v) (hb : bA τ (fl σ 222 50) = 63) : ∃ π' σ' τ', Tx_mods_162 N rc (nO π 10 14) (zO (sf σ 222 50 (fl σ 222 50 + 1)) (nn π) dfl) o x3 (fl σ 222 50) (nn π) D = rc π' σ' (P + L.length) (x3 + 1) ∧ r_readChange N τ 63 n = some (τ', fl τ 16 0) ∧ CHo Xo N D P L Kn st cl lo d j seg u v k π σ τ π' σ' τ' (P + L.length) (fl τ 16 0) := by
  obtain ⟨x1, x2, x3', ⟨x4, x4'⟩, x5, x6, x7, x8, x9⟩ := id h
  obtain ⟨a0, ⟨b1, b2, b3, b4, b5⟩, c0, d0⟩ := id x2
  have size := a0.2.2.1
  obtain ⟨e1, e2, e3, e4, e5⟩ := x8.b
  have n56 := x1.1
  have hP := x8.1.2.2
  have acl : fl σ 222 50 < cl := by
    by_cases c : fl σ 222 50 < cl
    · exact c
    · rw [show fl σ 222 50 = cl by omega, c0] at hb; omega
  obtain ⟨at0, hat0⟩ : ∃ at0, at0 = fl σ 222 50 := ⟨_, rfl⟩
  rw [← hat0] at acl ⊢
  have t2 : fl τ 2 0 = at0 := by rw [x3', hat0]
  obtain ⟨qn, hqn⟩ : ∃ qn, qn = fl τ 47 0 := ⟨_, rfl⟩
  obtain ⟨σa, hσa⟩ : ∃ σa, σa = sf σ 222 50 (at0 + 1) := ⟨_, rfl⟩
  have gf : ∀ f i, ¬ (f = 222 ∧ i = 50) → fl σa f i = fl σ f i := fun f i hx => by rw [hσa, fl_sf, if_neg hx]
  have xa : XFc σ σa := by rw [hσa]; exact (XFc.rf σ).at _
  have ga : fl σa 222 50 = at0 + 1 := by rw [hσa, fl_sfs]
  have g224 : fl σa 224 50 = qn := by rw [gf 224 50 (by omega), x6.1, hqn]
  have bda : BDy Xo π σa τ D P L Kn := x8.st (TX.rf τ) (fun f i y z => xa.1 f i (by omega) (by omega)) xa.2
  have k23 : fl σa 23 D = fl σ 23 D := xa.1 23 D (by omega) (by omega)
  obtain ⟨π1, σ1, s1, s2, s3, s4, s5, s6, s7, s8⟩ := c_spInitB (N := N) (π := π) (σ := σa) (kd := 22) (place := at0) (a := 500) (b := qn * 1000003)
  obtain ⟨π2, σ2, π3, σ3, p1, p2, p3, p4, p5, p6, p7, p8, p9, p10⟩ := c_one1 (N := N) (K := 21) (a := 500) (b := qn) (c := 0) (o := o) x1 bda (by omega) π1 σ1 s2 s5 s6 s7 s8 ⟨by decide, by decide, by decide, by decide, by decide, by decide⟩ rfl (by rw [if_pos (Or.inl rfl), Int.mul_comm]) (fun h => by omega)
  rw [k23] at p5 p7
  obtain ⟨σ4, hσ4⟩ : ∃ σ4, σ4 = sf σ3 224 50 (qn + 1) := ⟨_, rfl⟩
  have k224 : fl σ3 224 50 = qn := by rw [p9 224 50 (by omega)]; exact g224
  have h4 : ∀ f i, ¬ (f = 224 ∧ i = 50) → fl σ4 f i = fl σ3 f i := fun f i hx => by rw [hσ4, fl_sf, if_neg hx]
  have e4' : ∀ a j, el σ4 a j = el σ3 a j := fun a j => by rw [hσ4]; rfl
  have z4 : ∀ f i, i < 56 → ¬ (f = 222 ∧ i = 50) → ¬ (f = 224 ∧ i = 50) → fl σ4 f i = fl σ f i := fun f i hi y1 y2 => by rw [h4 f i y2, p9 f i hi, gf f i y1]
  have bd4 : BDy Xo π3 σ4 τ D P (L ++ [(21, at0, 500, qn, 0, 0, 0, [(o, 1, 1)])]) Kn := p6.st (TX.rf τ) (fun f i y z => h4 f i (by omega)) e4'
  have ft : XFt (fl σ 23 D) π σ π3 σ4 := (((XFt.rf (fl σ 23 D) π σ).xf xa (by omega)).tr p5).st (fun f i y z => h4 f i (by omega)) e4' (by omega)
  -- the reference
  obtain ⟨τ1, hτ1⟩ : ∃ τ1, τ1 = nwN (sf τ 2 0 (at0 + 1)) 31 at0 := ⟨_, rfl⟩
  have n16 : fl (sf τ 2 0 (at0 + 1)) 16 0 = fl τ 16 0 := fl_sfn _ _ _ _ (by decide)
  obtain ⟨m, hm⟩ : ∃ m, m = fl τ 16 0 := ⟨_, rfl⟩
  have vv := nwN_v (sf τ 2 0 (at0 + 1)) 31 at0
  rw [n16, ← hm, ← hτ1] at vv
  have f1 : ∀ f i, f ≠ 2 → f ≠ 16 → fl τ1 f i = fl τ f i := fun f i y1 y2 => by rw [hτ1, nwN_fl _ _ _ _ _ y2, fl_sfn _ _ _ _ y1]
  obtain ⟨τ2, hτ2⟩ : ∃ τ2, τ2 = sf (se τ1 92 m qn) 47 0 (qn + 1) := ⟨_, rfl⟩
  have e87 : el τ2 87 m = -1 := by rw [hτ2, el_sf, el_sen _ _ _ _ (by decide)]; exact vv.2.2.2.2.2.2.2.1
  obtain ⟨τ', hτ'⟩ : ∃ τ', τ' = apN τ2 m n := ⟨_, rfl⟩
  have rr : r_readChange N τ 63 n = some (τ', m) := by
    rw [r_readChange, grd_t (by decide), if_pos rfl, bnd, t2, r_node' (by rw [n16]; omega), Option.bind_some, n16, ← hm, ← hτ1]
    simp only
    rw [grd_t (by exact ⟨by omega, by omega⟩), f1 47 0 (by decide) (by decide), ← hqn, ← hτ2, r_readChange_132, r_append' (by exact ⟨by omega, by omega⟩) (by exact ⟨by omega, by omega⟩) (Or.inl e87) (by rw [e87]; decide), Option.bind_some, hτ']
  have rd1 : RDr lo d τ τ1 := by rw [hτ1]; exact nwN_rd ((RDr.rf _ _ τ).sf 2 _ (by omega)) _ _ (by rw [n16]; omega)
  have rd2 : RDr lo d τ τ2 := by rw [hτ2]; exact (rd1.sn 92 m _ (by omega) (by omega)).sf 47 _ (by omega)
  have rd' : RDr lo d τ τ' := by rw [hτ']; exact apN_rd rd2 ⟨by omega, by omega, Or.inl e87⟩
  have fv : ∀ f i, f ≠ 2 → f ≠ 16 → f ≠ 47 → fl τ' f i = fl τ f i := fun f i y1 y2 y3 => by rw [hτ', apN_fl, hτ2, fl_sfn _ _ _ _ y3, fl_se, f1 f i y1 y2]
  have fv2 : fl τ' 2 0 = at0 + 1 := by rw [hτ', apN_fl, hτ2, fl_sfn _ _ _ _ (by decide), fl_se, hτ1, nwN_fl _ _ _ _ _ (by decide), fl_sfs]
  have fv16 : fl τ' 16 0 = m + 1 := by rw [hτ', apN_fl, hτ2, fl_sfn _ _ _ _ (by decide), fl_se, hτ1, nwN_16, n16, hm]
  have fv47 : fl τ' 47 0 = qn + 1 := by rw [hτ', apN_fl, hτ2, fl_sfs]
  have e86 : el τ2 86 m = -1 := by rw [hτ2, el_sf, el_sen _ _ _ _ (by decide)]; exact vv.2.2.2.2.2.2.2.2.1
  have apv : ∀ a j, ¬ (a = 87 ∧ j = m) → ¬ (a = 86 ∧ j = m) → ¬ (a = 85 ∧ j = n) → el τ' a j = el τ2 a j := fun a j y1 y2 y3 => by
    rw [hτ']
    unfold apN
    rw [if_pos e87, el_se, if_neg (by omega), el_se, if_neg (by omega), el_se, if_neg (by omega)]
  have a87 : el τ' 87 m = n := by
    rw [hτ']
    unfold apN
    rw [if_pos e87, el_sen _ _ _ _ (by decide), el_sen _ _ _ _ (by decide), el_ses]
  have a92 : el τ' 92 m = qn := by rw [apv 92 m (by omega) (by omega) (by omega), hτ2, el_sf, el_ses]
  have a94 : el τ' 94 m = 31 := by rw [apv 94 m (by omega) (by omega) (by omega), hτ2, el_sf, el_sen _ _ _ _ (by decide)]; exact vv.1
  have a93 : el τ' 93 m = at0 := by rw [apv 93 m (by omega) (by omega) (by omega), hτ2, el_sf, el_sen _ _ _ _ (by decide)]; exact vv.2.1
  refine ⟨π3, σ4, τ', ?_, by rw [← hm]; exact rr, ft, rd', fv 41 0 (by decide) (by decide) (by decide), Or.inr ⟨(21, at0, 500, qn, 0, 0, 0, [(o, 1, 1)]), ?_, fv 13 0 (by decide) (by decide) (by decide), rfl, by rw [fv16, hm], by rw [← hm, a94]; decide, ?_, by omega, ?_⟩⟩
  · have fz : fl (zO σa (nn π) dfl) 224 50 = qn := by rw [fl_zO, if_neg (by omega)]; exact g224
    rw [← hσa, Tx_mods_162, fz, s1, Option.bind_some, grd_t (ob_nO π 10 14), Tx_mods_180, p1, Option.bind_some, grd_t p2, Tx_mods_184, p3, Option.bind_some, grd_t p4, Tx_mods_187, k224, ← hσ4, Tx_mods_203]
  · have qq := x6
    refine ⟨p8, x2.mv rd' ⟨z4 181 1 (by omega) (by omega) (by omega), z4 223 50 (by omega) (by omega) (by omega), fun j => by rw [e4', p10 j]; exact xa.2 2 j⟩ (by rw [h4 222 50 (by omega), p9 222 50 (by omega), ga]; omega), by rw [fv2, h4 222 50 (by omega), p9 222 50 (by omega), ga], ⟨by rw [z4 182 1 (by omega) (by omega) (by omega)]; exact x4, by rw [fv 11 0 (by decide) (by decide) (by decide)]; exact x4'⟩, by rw [z4 184 1 (by omega) (by omega) (by omega), fv 13 0 (by decide) (by decide) (by decide)]; exact x5, ⟨by rw [hσ4, fl_sfs, fv47], by omega, by omega⟩, by rw [z4 221 50 (by omega) (by omega) (by omega)]; exact x7, ?_, by omega⟩
    exact bd4.mv (HP.rf _ _) (TX.rd rd') ⟨rfl, rfl, rfl⟩ (fun _ _ _ _ => rfl) (fun _ _ _ _ => rfl)
  · rw [fv16]
    have := ch_tx (K := 21) (place := at0) (a := 500) (b := qn) (c := 0) (τ' := τ') (hi := m) hN hP.2 (by rw [hm]; exact ht) (by omega) huv (fun x i x1 x2 x3 x4 x5 => by
      rw [apv x i (by omega) (by omega) x5, hτ2, el_sf, el_se, if_neg (by omega), hτ1, nwN_el _ _ _ _ _ (by rw [n16]; omega), el_sf]) (Or.inr (Or.inr (Or.inr ⟨a94, rfl, rfl, a92, rfl⟩))) a93 a87 (by unfold IV; simp; omega)
    rw [← hm, hL.2]
    exact this
  · have cc : cpc π σa (fl σ 23 D) = cpc π σ (fl σ 23 D) := by unfold cpc; rw [gf 1 _ (by omega)]
    have cc4 : cpc π3 σ4 (fl σ 23 D) = cpc π3 σ3 (fl σ 23 D) := by unfold cpc; rw [h4 1 _ (by omega)]
    exact ⟨by have := p7.1; omega, by have := p7.2; omega⟩
end CG
