/-! a number as a part -/
section PN
variable {N : Nat} {Xo : Int → Prop}
theorem r_pn43 {σ τ0 : St} (hT : RTp σ τ0) {k n0 d0 x2 x3 : Int} (k0 : 0 ≤ k) (e : Nat) (he : k + e < fl τ0 1 0) (hA : ∀ i, k ≤ i → i < k + e → isDg (bA τ0 i)) (hB : ¬ isDg (bA τ0 (k + e))) (h3 : x3 = 0 ∨ x3 = 1) (hx2 : inb x2 32768 ∧ n0 ≤ x2) : ∀ (m n d : Nat) (τ : St), m < n → d + m = min e 6 → RDr n0 d0 τ0 τ → fl τ 2 0 = k + d → fl τ 11 0 = 0 → (e ≤ 6 → r_partNumber_43 N (n + 1) τ x2 x3 (dvl τ0 k d) d = r_partNumber_115 N (sf τ 2 0 (k + e)) x2 x3 (dvl τ0 k e) e) ∧ (6 < e → ∃ τ', r_partNumber_43 N (n + 1) τ x2 x3 (dvl τ0 k d) d = some τ' ∧ RDr n0 d0 τ0 τ' ∧ fl τ' 11 0 = 1 ∧ fl τ' 12 0 = k + 6) := by
  have size := hT.2.2.1
  have bar : ∀ {τ : St}, RDr n0 d0 τ0 τ → ∀ j, i32 j → r_byteAt N τ j = some (τ, bA τ0 j) := fun {τ} hr j hj => by
    have hT' : RTp σ τ := by
      unfold RTp
      rw [hr.1 1 0 (by omega) (by decide) (by decide) (by decide) (by decide)]
      obtain ⟨p, q, r, s⟩ := hT
      exact ⟨p, q, r, fun j j0 j1 => by rw [hr.2.1 97 j (by omega) (by omega)]; exact s j j0 j1⟩
    rw [rr_byteAt hT' hj, bA_rd hr]
  intro m
  induction m with
  | zero =>
    intro n d τ hn hd hr h2 h11
    have bb := bA_rg hT (k + d)
    refine ⟨fun c => ?_, fun c => ?_⟩
    · have ed : d = e := by omega
      rw [r_partNumber_43, h2, bar hr _ ⟨by omega, by omega⟩, Option.bind_some, rr_isDigit (by exact ⟨by omega, by omega⟩), if_neg (by rw [ed]; exact hB), Option.bind_some, grd_t (by decide), if_pos rfl, ed, sf_id (by rw [h2, ed])]
    · have ed : (d : Int) = 6 := by omega
      obtain ⟨q, rfl⟩ : ∃ q, n = q + 1 := ⟨n - 1, by omega⟩
      have db := dvl_b (τ := τ0) (k := k) (m := d) (fun i a b => hA i a (by omega))
      have p6 : (10 : Int) ^ d = 1000000 := by rw [show d = 6 by omega]; decide
      have bb7 := bA_rg hT (k + 7)
      obtain ⟨τ1, hτ1⟩ : ∃ τ1, τ1 = sf (sf τ 11 0 1) 12 0 (k + 6) := ⟨_, rfl⟩
      have r1 : RDr n0 d0 τ0 τ1 := by rw [hτ1]; exact (hr.sf 11 _ (by omega)).sf 12 _ (by omega)
      have g2 : fl τ1 2 0 = k + 6 := by rw [hτ1, fl_sfn _ _ _ _ (by decide), fl_sfn _ _ _ _ (by decide), h2, ed]
      have r2 : RDr n0 d0 τ0 (sf τ1 2 0 (k + 7)) := r1.sf 2 _ (by omega)
      have g11 : fl (sf τ1 2 0 (k + 7)) 11 0 = 1 := by rw [fl_sfn _ _ _ _ (by decide), hτ1, fl_sfn _ _ _ _ (by decide), fl_sfs]
      have g12 : fl (sf τ1 2 0 (k + 7)) 12 0 = k + 6 := by rw [fl_sfn _ _ _ _ (by decide), hτ1, fl_sfs]
      obtain ⟨v, hv⟩ : ∃ v, v = 10 * dvl τ0 k d + bA τ0 (k + 6) - 48 := ⟨_, rfl⟩
      have d6 := hA (k + 6) (by omega) (by omega)
      have e115 : r_partNumber_115 N (sf τ1 2 0 (k + 7)) x2 x3 v 7 = some (sf (sf (se (sf τ1 2 0 (k + 7)) 92 x2 (if x3 = 0 then v else -v)) 46 0 x2) 41 0 (fl (sf τ1 2 0 (k + 7)) 41 0 - 1)) := by
        rw [r_partNumber_115, grd_t (by decide), if_neg (by decide), r_partNumber_129, grd_t (by rcases h3 with h | h <;> rw [h] <;> decide)]
        by_cases c0 : x3 = 0
        · rw [if_pos c0, if_pos c0, r_partNumber_146, grd_t hx2.1, bnd, r_finish', Option.bind_some]; rfl
        · rw [if_neg c0, if_neg c0, r_partNumber_146, grd_t hx2.1, bnd, r_finish', Option.bind_some]; rfl
      have nx : r_partNumber_43 N (q + 1) (sf τ1 2 0 (k + 7)) x2 x3 v 7 = r_partNumber_115 N (sf τ1 2 0 (k + 7)) x2 x3 v 7 := by
        rw [r_partNumber_43, fl_sfs, bar r2 _ ⟨by omega, by omega⟩, Option.bind_some, rr_isDigit (by exact ⟨by omega, by omega⟩), Option.bind_some]
        by_cases c7 : isDg (bA τ0 (k + 7))
        · rw [if_pos c7, grd_t (by decide), if_neg (by decide), g11, grd_t (by decide), if_neg (by decide)]
        · rw [if_neg c7, grd_t (by decide), if_pos rfl]
      refine ⟨_, ?_, ((r2.sn 92 x2 (if x3 = 0 then v else -v) (by omega) hx2.2).sf 46 x2 (by omega)).sf 41 (fl (sf τ1 2 0 (k + 7)) 41 0 - 1) (by omega), ?_, ?_⟩
      · rw [r_partNumber_43, h2, bar hr _ ⟨by omega, by omega⟩, Option.bind_some, rr_isDigit (by exact ⟨by omega, by omega⟩), if_pos (hA _ (by omega) (by omega)), Option.bind_some, grd_t (by decide), if_neg (by decide)]
        simp only
        rw [h11, grd_t (by decide), if_pos rfl, grd_t (by exact ⟨by omega, by omega⟩), if_pos ed, h2, r_fail0 h11, Option.bind_some, ed, ← hτ1, r_partNumber_80, g2, bar r1 _ ⟨by omega, by omega⟩, Option.bind_some, bnd, ← hv]
        simp only
        rw [g2, show k + 6 + 1 = k + 7 by omega, show (6 : Int) + 1 = 7 by omega, nx, e115]
      · rw [fl_sfn _ _ _ _ (by decide), fl_sfn _ _ _ _ (by decide), fl_se]; exact g11
      · rw [fl_sfn _ _ _ _ (by decide), fl_sfn _ _ _ _ (by decide), fl_se]; exact g12
  | succ m ih =>
    intro n d τ hn hd hr h2 h11
    obtain ⟨q, rfl⟩ : ∃ q, n = q + 1 := ⟨n - 1, by omega⟩
    have bb := bA_rg hT (k + d)
    have r1 : RDr n0 d0 τ0 (sf τ 2 0 (k + d + 1)) := hr.sf 2 _ (by omega)
    have i := ih q (d + 1) (sf τ 2 0 (k + d + 1)) (by omega) (by omega) r1 (by rw [fl_sfs]; omega) (by rw [fl_sfn _ _ _ _ (by decide)]; exact h11)
    have un : r_partNumber_43 N (q + 1 + 1) τ x2 x3 (dvl τ0 k d) d = r_partNumber_43 N (q + 1) (sf τ 2 0 (k + d + 1)) x2 x3 (dvl τ0 k (d + 1)) ((d + 1 : Nat) : Int) := by
      have ev : dvl τ0 k (d + 1) = 10 * dvl τ0 k d + bA τ0 (k + d) - 48 := by show dvl τ0 k d * 10 + bA τ0 (k + d) - 48 = _; omega
      rw [ev]
      conv => lhs; rw [r_partNumber_43]
      rw [h2, bar hr _ ⟨by omega, by omega⟩, Option.bind_some, rr_isDigit (by exact ⟨by omega, by omega⟩), if_pos (hA _ (by omega) (by omega)), Option.bind_some, grd_t (by decide), if_neg (by decide)]
      simp only
      rw [h11, grd_t (by decide), if_pos rfl, grd_t (by exact ⟨by omega, by omega⟩), if_neg (by omega), r_partNumber_80, h2, bar hr _ ⟨by omega, by omega⟩, Option.bind_some, bnd]
      simp only
      rw [h2]
      rfl
    rw [un]
    refine ⟨fun c => ?_, fun c => i.2 c⟩
    rw [i.1 c, sf_sf]
theorem pt_num {π : Sh} {σ τ : St} {D P st cl d : Int} {L : List Stq} {Kn : List Int} {rP : Sh → St → Option (Sh × St × Int)} (hN : 30000001 ≤ N) (h : XS Xo π σ τ D P L Kn st cl) (hF : FR12 τ d 12 0) (hL : L.length ≤ 19000) (hn : fl τ 16 0 + 3 ≤ 32768) (hb : isDg (bA τ (fl σ 222 50)) ∨ bA τ (fl σ 222 50) = 45) : ∃ π' σ' τ' o, Tx_part N rP π σ = some (π', σ', o) ∧ RLp N 1 τ τ' ∧ PTo Xo N D P L Kn st cl d π σ τ π' σ' τ' o := by
  obtain ⟨x1, x2, x3, ⟨x4, x4'⟩, x5, x6, x7, x8, x9⟩ := id h
  obtain ⟨a0, ⟨b1, b2, b3, b4, b5⟩, c0, d0⟩ := id x2
  obtain ⟨f1, f2, f3, f4, f5⟩ := hF
  have size := a0.2.2.1
  obtain ⟨e1, e2, e3, e4, e5⟩ := x8.b
  have n56 := x1.1
  have acl : fl σ 222 50 < cl := by
    by_cases c : fl σ 222 50 < cl
    · exact c
    · rw [show fl σ 222 50 = cl by omega, c0] at hb; omega
  obtain ⟨at0, hat0⟩ : ∃ at0, at0 = fl σ 222 50 := ⟨_, rfl⟩
  have t2 : fl τ 2 0 = at0 := by rw [x3, hat0]
  obtain ⟨mn, hmn⟩ : ∃ mn : Int, mn = if bA τ at0 = 45 then 1 else 0 := ⟨_, rfl⟩
  have mn01 : mn = 0 ∨ mn = 1 := by rw [hmn]; split <;> simp
  rw [← hat0] at hb acl
  obtain ⟨k, hk⟩ : ∃ k, k = at0 + mn := ⟨_, rfl⟩
  have hkc : k ≤ cl := by omega
  obtain ⟨e, g1, g2, g3⟩ := dg_run x2 (k := k) (by omega) hkc
  have g1' : k + (e : Int) < fl τ 1 0 := by omega
  have mq : st ≤ k + ((min e 6 : Nat) : Int) ∧ k + ((min e 6 : Nat) : Int) ≤ cl := by omega
  have mle : e ≤ 6 → k + ((min e 6 : Nat) : Int) = k + e := fun q => by rw [Nat.min_eq_left q]
  have mgt : 6 < e → k + ((min e 6 : Nat) : Int) = k + 6 := fun q => by rw [Nat.min_eq_right (by omega)]; rfl
  have bb := bA_rg a0 at0
  have i1 : i32 (bA τ at0) := ⟨by omega, by omega⟩
  have nl : ¬ isLt (bA τ at0) := by omega
  -- the class, as far as the digits
  obtain ⟨σa, hσa⟩ : ∃ σa, σa = sf σ 222 50 k := ⟨_, rfl⟩
  have xa : XFc σ σa := by rw [hσa]; exact (XFc.rf σ).at _
  have ga : fl σa 222 50 = k := by rw [hσa, fl_sfs]
  have xba : XB σa τ st cl := x2.xf xa (XFr.rf τ) (by omega) (by omega)
  have dg := c_digits_lp (N := N) (π := π) xba (k := k) (by omega) e g1 g2 g3 6 (by omega) (min e 6) N 0 (sf σa 225 50 k) (by omega) (by omega) ((XFc.rf σa).dg _) (by rw [fl_sfn _ _ _ _ (by decide), ga]; omega) (fl_sfs _ _ _ _)
  obtain ⟨σb, hσb⟩ : ∃ σb, σb = sf (sf σa 225 50 k) 222 50 (k + ((min e 6 : Nat) : Int)) := ⟨_, rfl⟩
  rw [← hσb] at dg
  have xb : XFc σ σb := by rw [hσb]; exact (xa.dg _).at _
  have gb : fl σb 222 50 = k + ((min e 6 : Nat) : Int) := by rw [hσb, fl_sfs]
  have gf : ∀ f i, ¬ (i = 50 ∧ (f = 222 ∨ f = 225)) → fl σb f i = fl σ f i := fun f i hx => by rw [hσb, fl_sf, if_neg (by omega), fl_sf, if_neg (by omega), hσa, fl_sf, if_neg (by omega)]
  have db := dvl_b g2
  have pe : e ≤ 6 → (10 : Int) ^ e ≤ 1000000 := fun q => by rcases (show e = 0 ∨ e = 1 ∨ e = 2 ∨ e = 3 ∨ e = 4 ∨ e = 5 ∨ e = 6 by omega) with rfl | rfl | rfl | rfl | rfl | rfl | rfl <;> decide
  have cls : ∀ X, (if 1 ≤ e ∧ e ≤ 6 then Tx_signedNumber_71 N (nO π 10 14) (zO σb (nn π) dfl) at0 mn (dvl τ k e) (nn π) D else some (π, flS σb 1 (k + ((min e 6 : Nat) : Int)), 0)) = X → Tx_part N rP π σ = X := by
    intro X hX
    have e34 : Tx_signedNumber_34 N π σ at0 mn mn at0 = X := by
      rw [Tx_signedNumber_34, bnd, ← hk, ← hσa, Tx_digits, ga]
      rw [show dvl τ k 0 = 0 from rfl] at dg
      have dg' : Tx_digits_18 N π N (sf σa 225 50 k) 6 0 = some (σb, if 1 ≤ e ∧ e ≤ 6 then dvl τ k e else -1) := dg
      rw [dg', Option.bind_some]
      simp only
      by_cases c : 1 ≤ e ∧ e ≤ 6
      · have := pe c.2
        rw [if_pos c] at hX ⊢
        rw [grd_t (by exact ⟨by omega, by omega⟩), if_neg (by omega), gf 221 50 (by omega), x7]
        exact hX
      · rw [if_neg c] at hX ⊢
        rw [grd_t (by decide), if_pos rfl, gb, c_fail (by rw [gf 182 1 (by omega), x4]; decide), Option.bind_some]
        exact hX
    have sn : Tx_signedNumber N π σ = X := by
      rw [Tx_signedNumber, c_here x2, Option.bind_some, ← hat0]
      simp only
      rw [grd_t i1]
      by_cases c : bA τ at0 = 45
      · have m1 : mn = 1 := by rw [hmn, if_pos c]
        rw [if_pos c, Tx_signedNumber_19, grd_t (by decide), if_neg (by decide), ← hat0]
        rw [m1] at e34; exact e34
      · have m1 : mn = 0 := by rw [hmn, if_neg c]
        rw [if_neg c, Tx_signedNumber_19, grd_t (by decide), if_pos rfl, ← hat0]
        rw [m1] at e34; exact e34
    have p30 : Tx_part_30 N rP π σ = X := by
      rw [Tx_part_30, sn]
      cases X with
      | none => rfl
      | some r => rfl
    rw [Tx_part, c_here x2, Option.bind_some, ← hat0, c_isLetter i1, if_neg nl, Option.bind_some, grd_t (by decide), if_pos rfl, c_isDigit i1, Option.bind_some]
    by_cases c : isDg (bA τ at0)
    · rw [if_pos c, grd_t (by decide), if_neg (by decide)]; exact p30
    · rw [if_neg c, grd_t (by decide), if_pos rfl, grd_t i1, if_pos (hb.resolve_left c)]; exact p30
  -- the reference, as far as the digits
  obtain ⟨n, hn0⟩ : ∃ n, n = fl τ 16 0 := ⟨_, rfl⟩
  obtain ⟨τa, hτa⟩ : ∃ τa, τa = nwN τ 21 at0 := ⟨_, rfl⟩
  obtain ⟨τb, hτb⟩ : ∃ τb, τb = if mn = 0 then τa else sf τa 2 0 (at0 + 1) := ⟨_, rfl⟩
  have ra : RDr n d τ τa := by rw [hτa]; exact nwN_rd (RDr.rf _ _ τ) _ _ (by omega)
  have rb : RDr n d τ τb := by
    rw [hτb]; split
    · exact ra
    · exact ra.sf 2 _ (by omega)
  have ta2 : fl τa 2 0 = at0 := by rw [hτa, nwN_fl _ _ _ _ _ (by decide), t2]
  have tb2 : fl τb 2 0 = k := by
    rw [hτb]
    rcases mn01 with q | q
    · rw [if_pos q, ta2]; omega
    · rw [if_neg (by omega), fl_sfs]; omega
  have tbf : ∀ f i, f ≠ 2 → f ≠ 16 → fl τb f i = fl τ f i := fun f i y1 y2 => by
    rw [hτb]; split
    · rw [hτa, nwN_fl _ _ _ _ _ y2]
    · rw [fl_sfn _ _ _ _ y1, hτa, nwN_fl _ _ _ _ _ y2]
  have tb16 : fl τb 16 0 = n + 1 := by
    rw [hτb]; split
    · rw [hτa, nwN_16, hn0]
    · rw [fl_sfn _ _ _ _ (by decide), hτa, nwN_16, hn0]
  have tbe : ∀ a j, el τb a j = el τa a j := fun a j => by rw [hτb]; split <;> rfl
  have rcls : rdK N 12 τ d = r_partNumber_43 N N τb n mn 0 0 := by
    have pn : r_partNumber N τ (bA τ at0) = r_partNumber_43 N N τb n mn 0 0 := by
      rw [r_partNumber, t2, r_node' (by omega), Option.bind_some, ← hτa, ← hn0, grd_t i1]
      by_cases c : bA τ at0 = 45
      · have m1 : mn = 1 := by rw [hmn, if_pos c]
        rw [if_pos c, r_partNumber_22, grd_t (by decide), if_neg (by decide), r_partNumber_37, ta2, hτb, m1, if_neg (by decide)]
      · have m1 : mn = 0 := by rw [hmn, if_neg c]
        rw [if_neg c, r_partNumber_22, grd_t (by decide), if_pos rfl, r_partNumber_37, hτb, m1, if_pos rfl]
    have p199 : r_readPart_199 N τ (bA τ at0) = r_partNumber_43 N N τb n mn 0 0 := by rw [r_readPart_199, bsm, pn]
    rw [rdK]
    iterate 11 rw [if_neg (by decide)]
    rw [r_readPart, t2, rr_byteAt a0 (by exact ⟨by omega, by omega⟩), Option.bind_some, grd_t (by exact ⟨f2.1, by omega⟩)]
    simp only
    rw [f4, grd_t (by decide), if_neg (by decide), rr_isLow i1, if_neg nl, Option.bind_some, grd_t (by decide), if_pos rfl, rr_isDigit i1, Option.bind_some]
    by_cases c : isDg (bA τ at0)
    · rw [if_pos c, grd_t (by decide), if_neg (by decide), p199]
    · rw [if_neg c, grd_t (by decide), if_pos rfl, grd_t i1, if_pos (hb.resolve_left c), p199]
  have p43 := r_pn43 (N := N) a0 (k := k) (n0 := n) (d0 := d) (x2 := n) (x3 := mn) (by omega) e g1' g2 g3 mn01 ⟨⟨by omega, by omega⟩, Int.le_refl _⟩ (min e 6) (N - 1) 0 τb (by omega) (by omega) rb (by rw [tb2]; omega) (by rw [tbf 11 0 (by decide) (by decide)]; exact x4')
  rw [show N - 1 + 1 = N by omega] at p43
  have z0 : dvl τ k 0 = 0 := rfl
  rw [z0, show ((0 : Nat) : Int) = 0 from rfl] at p43
  have fcl : ∀ τ'' y, RLp N 1 τ τ'' → RDr n d τ τ'' → fl τ'' 11 0 = 1 → fl τ'' 12 0 = k + ((min e 6 : Nat) : Int) → ¬ (1 ≤ e ∧ e ≤ 6) → y = 0 → ∃ π' σ' τ' o, Tx_part N rP π σ = some (π', σ', o) ∧ RLp N 1 τ τ' ∧ PTo Xo N D P L Kn st cl d π σ τ π' σ' τ' o := by
    intro τ'' y hrl hrd h11 h12 hc hy
    have c1 := cls _ rfl
    rw [if_neg hc] at c1
    have fs := flS_0 (σ := σb) (x := 1) (y := k + ((min e 6 : Nat) : Int)) (by rw [gf 182 1 (by omega)]; exact x4)
    have f2' := flS_222 σb 1 (k + ((min e 6 : Nat) : Int))
    have xs : XFc σ (flS σb 1 (k + ((min e 6 : Nat) : Int))) := flS_xf xb _ _
    have hs : ∀ (f : Nat) (i : Int), ¬ (i = 50 ∧ 222 ≤ f ∧ f ≤ 225) → ¬ (i = 1 ∧ 182 ≤ f ∧ f ≤ 184) → fl (flS σb 1 (k + ((min e 6 : Nat) : Int))) f i = fl σ f i := fun f i y z => xs.1 f i (by omega) (by omega)
    refine ⟨_, _, τ'', _, c1, hrl, ((XFt.rf (fl σ 23 D) π σ).xf xs (by omega)), by rw [← hn0]; exact hrd, Or.inl ⟨⟨by rw [fs.1, h11], by rw [fs.2, h12], by omega⟩, ⟨L, ⟨x1, x2.mv hrd ⟨xs.1 181 1 (by omega) (by omega), xs.1 223 50 (by omega) (by omega), fun j => xs.2 2 j⟩ (by rw [f2'.1, gb]; exact mq), by rw [xs.1 221 50 (by omega) (by omega)]; exact x7, x8.st (TX.rd hrd) hs xs.2⟩, by omega⟩, ⟨by omega, ?_⟩⟩⟩
    have cp : cpc π (flS σb 1 (k + ((min e 6 : Nat) : Int))) (fl σ 23 D) = cpc π σ (fl σ 23 D) := by unfold cpc; rw [hs 1 _ (by omega) (by omega)]
    rw [cp]; omega
  by_cases c : 1 ≤ e ∧ e ≤ 6
  · -- a number
    have vb := pe c.2
    obtain ⟨v, hv⟩ : ∃ v : Int, v = if mn = 0 then dvl τ k e else -(dvl τ k e) := ⟨_, rfl⟩
    have iv : i32 v := by rw [hv]; split <;> exact ⟨by omega, by omega⟩
    have bdb : BDy Xo π σb τ D P L Kn := x8.st (TX.rf τ) (fun f i y z => xb.1 f i (by omega) (by omega)) xb.2
    have k23 : fl σb 23 D = fl σ 23 D := xb.1 23 D (by omega) (by omega)
    obtain ⟨π1, σ1, s1, s2, s3, s4, s5, s6, s7, s8⟩ := c_spInitB (N := N) (π := π) (σ := σb) (kd := 2) (place := at0) (a := v) (b := 0)
    have sq : SQ π1 σ1 (nn π) (2, at0, v, 0, 0, 0, 0, []) := Or.inr ⟨(by decide : (2 : Int) ≠ 99), mkSR s6 (by omega) (by simp) (mkCK s5 (by rw [s7.2.1]; decide) (by omega) (fun h => by omega) (fun _ _ _ => by rw [if_neg (show ¬ (2 : Int) = 11 by decide)]) (fun h => by omega) (fun h => by omega) (fun h => by omega)) s5.2.1 ⟨s5.2.2.2.2.2.2.1, Or.inl rfl⟩⟩
    obtain ⟨π2, σ2, q1, q2, q3, q4, q5, q6, q7, q8, q9⟩ := c_addNew (N := N) x1 bdb (by omega) s2 sq (own_new s6 s7)
    rw [k23] at q4 q6
    have cl1 : Tx_part N rP π σ = some (π2, σ2, P + L.length) := by
      refine cls _ ?_
      have e84 : Tx_signedNumber_84 N (nO π 10 14) (zO σb (nn π) dfl) v at0 2 (nn π) (nn π) D = some (π2, σ2, P + L.length) := by
        rw [Tx_signedNumber_84, s1, Option.bind_some, grd_t (ob_nO π 10 14), Tx_signedNumber_88, q1, Option.bind_some, grd_t q2, Tx_signedNumber_91]
      rw [if_pos c, Tx_signedNumber_71, grd_t (by rcases mn01 with q | q <;> rw [q] <;> decide)]
      rcases mn01 with q | q
      · rw [if_pos q]; rw [hv, if_pos q] at e84; exact e84
      · rw [if_neg (by omega)]; rw [hv, if_neg (by omega)] at e84; exact e84
    have at1 : k + ((min e 6 : Nat) : Int) = k + e := mle c.2
    obtain ⟨τ', hτ'⟩ : ∃ τ', τ' = sf (sf (se (sf τb 2 0 (k + e)) 92 n v) 46 0 n) 41 0 d := ⟨_, rfl⟩
    have rr : rdK N 12 τ d = some τ' := by
      rw [rcls, p43.1 c.2, r_partNumber_115, grd_t (by exact ⟨by omega, by omega⟩), if_neg (by omega), r_partNumber_129, grd_t (by rcases mn01 with q | q <;> rw [q] <;> decide)]
      have e146 : ∀ w, w = v → r_partNumber_146 N (sf τb 2 0 (k + e)) n w n = some τ' := fun w hw => by
        rw [r_partNumber_146, grd_t (by exact ⟨by omega, by omega⟩), bnd, r_finish', Option.bind_some, fl_se, fl_sfn _ _ _ _ (by decide), tbf 41 0 (by decide) (by decide), f1, show d + 1 - 1 = d by omega, hw, hτ']
      rcases mn01 with q | q
      · rw [if_pos q]; exact e146 _ (by rw [hv, if_pos q])
      · rw [if_neg (by omega)]; exact e146 _ (by rw [hv, if_neg (by omega)])
    have rd0 : RDr (fl τ 16 0) d τ τ' := by
      rw [hτ', ← hn0]
      exact (((rb.sf 2 _ (by omega)).sn 92 n v (by omega) (Int.le_refl _)).sf 46 _ (by omega)).sf 41 _ (by omega)
    have vv := nwN_v τ 21 at0
    rw [← hn0] at vv
    have fv : ∀ f i, f ≠ 46 → f ≠ 41 → f ≠ 16 → f ≠ 2 → fl τ' f i = fl τ f i := fun f i y1 y2 y3 y4 => by rw [hτ', fl_sfn _ _ _ _ y2, fl_sfn _ _ _ _ y1, fl_se, fl_sfn _ _ _ _ y4, tbf f i y4 y3]
    have ev : ∀ a, a ≠ 92 → el τ' a n = el τa a n := fun a ha => by rw [hτ', el_sf, el_sf, el_sen _ _ _ _ ha, el_sf, tbe]
    refine ⟨π2, σ2, τ', _, cl1, RLp.one f1 (by omega) x4' ⟨f3, by omega, by omega⟩ rr, ?_⟩
    refine pt_leaf (K := 2) (a := v) (b := 0) (at' := k + e) hN h hn ?_ (by rw [← hat0]; exact q5) ?_ q7 (by rw [q8 222 50 (by omega), gb, at1]) (by omega) ⟨by rw [q8 182 1 (by omega), gf 182 1 (by omega)]; exact x4, by rw [q8 184 1 (by omega), gf 184 1 (by omega)], by rw [q8 224 50 (by omega), gf 224 50 (by omega)], by rw [q8 221 50 (by omega), gf 221 50 (by omega)]; exact x7, by rw [q8 223 50 (by omega), gf 223 50 (by omega)], by rw [q8 181 1 (by omega), gf 181 1 (by omega)]⟩ (fun j => by rw [q9 j]; exact xb.2 2 j) rd0 ?_ ⟨by rw [fv 11 0 (by decide) (by decide) (by decide) (by decide)]; exact x4', fv 13 0 (by decide) (by decide) (by decide) (by decide), fv 47 0 (by decide) (by decide) (by decide) (by decide)⟩ ⟨by rw [hτ', fl_sfs], by rw [hτ', fl_sfn _ _ _ _ (by decide), fl_sfs, hn0], ?_⟩ (Or.inr (Or.inl ⟨?_, rfl, ?_, rfl⟩)) ?_ (by unfold IV; simp; exact iv)
    · exact ((XFt.rf (fl σ 23 D) π σ).xf xb (by omega)).tr q4
    · have cc : cpc π σb (fl σ 23 D) = cpc π σ (fl σ 23 D) := by unfold cpc; rw [gf 1 _ (by omega)]
      exact ⟨by have := q6.1; omega, by have := q6.2; omega⟩
    · rw [hτ', fl_sfn _ _ _ _ (by decide), fl_sfn _ _ _ _ (by decide), fl_se, fl_sfs]
    · rw [hτ', fl_sfn _ _ _ _ (by decide), fl_sfn _ _ _ _ (by decide), fl_se, fl_sfn _ _ _ _ (by decide), tb16, hn0]
    · rw [← hn0, ev 94 (by decide), hτa]; exact vv.1
    · rw [← hn0, hτ', el_sf, el_sf, el_ses]
    · rw [← hn0, ev 93 (by decide), hτa, vv.2.1, hat0]
  · by_cases c6 : 6 < e
    · obtain ⟨τ'', u1, u2, u3, u4⟩ := p43.2 c6
      exact fcl τ'' 0 (RLp.one f1 (by omega) x4' ⟨f3, by omega, by omega⟩ (by rw [rcls]; exact u1)) u2 u3 (by rw [u4, mgt c6]) c rfl
    · have e0 : e = 0 := by omega
      obtain ⟨τc, hτc⟩ : ∃ τc, τc = sf (sf (sf τb 2 0 (k + e)) 11 0 1) 12 0 (k + e) := ⟨_, rfl⟩
      have g11 : fl (sf τb 2 0 (k + e)) 11 0 = 0 := by rw [fl_sfn _ _ _ _ (by decide), tbf 11 0 (by decide) (by decide)]; exact x4'
      have rc : RDr n d τ τc := by rw [hτc]; exact ((rb.sf 2 _ (by omega)).sf 11 _ (by omega)).sf 12 _ (by omega)
      have rr : ∃ τ'', rdK N 12 τ d = some τ'' ∧ RDr n d τ τ'' ∧ fl τ'' 11 0 = 1 ∧ fl τ'' 12 0 = k + e := by
        refine ⟨sf (sf (se τc 92 n (if mn = 0 then dvl τ k e else -(dvl τ k e))) 46 0 n) 41 0 (fl τc 41 0 - 1), ?_, ((rc.sn 92 n _ (by omega) (Int.le_refl _)).sf 46 _ (by omega)).sf 41 _ (by omega), ?_, ?_⟩
        · rw [rcls, p43.1 (by omega), r_partNumber_115, grd_t (by exact ⟨by omega, by omega⟩), if_pos (by omega), fl_sfs, r_fail0 g11, Option.bind_some, ← hτc, r_partNumber_129, grd_t (by rcases mn01 with q | q <;> rw [q] <;> decide)]
          rcases mn01 with q | q
          · rw [if_pos q, if_pos q, r_partNumber_146, grd_t (by exact ⟨by omega, by omega⟩), bnd, r_finish', Option.bind_some]; rfl
          · rw [if_neg (by omega), if_neg (by omega), r_partNumber_146, grd_t (by exact ⟨by omega, by omega⟩), bnd, r_finish', Option.bind_some]; rfl
        · rw [fl_sfn _ _ _ _ (by decide), fl_sfn _ _ _ _ (by decide), fl_se, hτc, fl_sfn _ _ _ _ (by decide), fl_sfs]
        · rw [fl_sfn _ _ _ _ (by decide), fl_sfn _ _ _ _ (by decide), fl_se, hτc, fl_sfs]
      obtain ⟨τ'', u1, u2, u3, u4⟩ := rr
      exact fcl τ'' 0 (RLp.one f1 (by omega) x4' ⟨f3, by omega, by omega⟩ u1) u2 u3 (by rw [u4, mle (by omega)]) c rfl
end PN
