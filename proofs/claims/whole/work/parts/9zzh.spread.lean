/-! the sign ( behind a part, both -/
section EV
variable {N : Nat} {Xo : Int → Prop}
theorem both_plain {π : Sh} {σ τ : St} {st cl : Int} (hN : 3000 ≤ N) (h : XB σ τ st cl) (hat : fl τ 2 0 = fl σ 222 50) (h182 : fl σ 182 1 = 0) (h11 : fl τ 11 0 = 0) : ∃ σ' τ' v w, Tx_number N π σ 0 9999 = some (σ', v) ∧ r_plainNumber N τ = some (τ', w) ∧ XFc σ σ' ∧ XFr τ τ' ∧ XB σ' τ' st cl ∧ fl τ' 2 0 = fl σ' 222 50 ∧ fl τ' 4 0 = fl σ' 225 50 ∧ i32 v ∧ i32 w ∧ ((FLT σ' τ') ∨ (fl σ' 182 1 = 0 ∧ fl τ' 11 0 = 0 ∧ v = w ∧ 0 ≤ v ∧ v ≤ 9999 ∧ fl σ 222 50 < fl σ' 222 50)) := by
  obtain ⟨q1, q2, q3, q4⟩ := nb_in h
  obtain ⟨a0, ⟨b1, b2, b3, b4, b5⟩, c0, d0⟩ := id h
  have size := a0.2.2.1
  obtain ⟨j, hj⟩ : ∃ j, j = nb τ cl (fl σ 222 50) := ⟨_, rfl⟩
  rw [← hj] at q1 q2
  obtain ⟨e, e1, e2, e3⟩ := dg_run h (k := j) (by omega) q2
  obtain ⟨σ', v, s1, s2, s3, s4, s5, -, s6⟩ := c_number (N := N) (π := π) (a := 0) (b := 9999) hN h (by rw [h182]; decide) ⟨by decide, by decide⟩ hj e1 e2 e3
  obtain ⟨t1, t2, t3⟩ := s6 h182
  obtain ⟨τ', w, r1, r2, r3, r4, r5, r6⟩ := r_plain' (N := N) hN h hat h11 hj e1 e2 e3
  have xb' : XB σ' τ' st cl := h.xf s2 r2 (by omega) (by omega)
  by_cases c : 1 ≤ e ∧ e ≤ 4
  · obtain ⟨w1, w2⟩ := r5 c
    rw [if_pos c] at s5
    have vw : v = w := by rw [s5, w1]
    have d := dvl_b e2
    have p : (10 : Int) ^ e ≤ 10000 := by rcases (show e = 1 ∨ e = 2 ∨ e = 3 ∨ e = 4 by omega) with rfl | rfl | rfl | rfl <;> decide
    exact ⟨σ', τ', v, w, s1, r1, s2, r2, xb', by rw [r3, s3], by rw [r4, s4], ⟨by omega, by omega⟩, ⟨by omega, by omega⟩, Or.inr ⟨t3 c (by omega) (by omega), w2, vw, by omega, by omega, by omega⟩⟩
  · obtain ⟨w1, w2, w3⟩ := r6 c
    obtain ⟨u1, u2⟩ := t1 c
    rw [if_neg c] at s5
    exact ⟨σ', τ', v, w, s1, r1, s2, r2, xb', by rw [r3, s3], by rw [r4, s4], by rw [s5]; decide, by rw [w1]; decide, Or.inl ⟨by rw [u1, w2], by rw [u2, w3], by rw [w2]; omega⟩⟩
/-- what is left alone of the reference while such a change is read: m is its node -/
def EUr (m : Int) (τ τ' : St) : Prop := (∀ (f : Nat) (i : Int), f ≠ 2 → f ≠ 4 → f ≠ 11 → f ≠ 12 → fl τ' f i = fl τ f i) ∧ ∀ x i : Int, ¬ (i = m ∧ 90 ≤ x ∧ x ≤ 92) → el τ' x i = el τ x i
theorem EUr.rf (m : Int) (τ : St) : EUr m τ τ := ⟨fun _ _ _ _ _ _ => rfl, fun _ _ _ => rfl⟩
theorem EUr.xf {m : Int} {τ τ1 τ2 : St} (h : EUr m τ τ1) (k : XFr τ1 τ2) : EUr m τ τ2 := ⟨fun f i a b c d => (k.1 f i a b c d).trans (h.1 f i a b c d), fun x i y => (k.2 x i).trans (h.2 x i y)⟩
theorem EUr.se {m : Int} {τ τ1 : St} (h : EUr m τ τ1) (a v : Int) (ha : 90 ≤ a ∧ a ≤ 92) : EUr m τ (se τ1 a m v) := ⟨fun f i a b c d => (h.1 f i a b c d), fun x i y => by rw [el_se, if_neg (by omega)]; exact h.2 x i y⟩
set_option maxHeartbeats 8000000 in
theorem ch_euclid {π : Sh} {σ τ : St} {D P st cl lo d j o n u v : Int} {L seg : List Stq} {Kn : List Int} {k : Nat} (hN : 30000001 ≤ N) (h : XS Xo π σ τ D P L Kn st cl) (hL : L.length ≤ 19000 ∧ (L.length : Int) = j + seg.length) (hn : fl τ 16 0 + 3 ≤ 32768) (hlo : 0 ≤ lo ∧ lo ≤ n ∧ n < fl τ 16 0) (ht : TXq N τ lo (fl τ 16 0) P j seg n o u v k) (huv : 1 ≤ u ∧ 1 ≤ v) (hb : bA τ (fl σ 222 50) = 40) : ∃ π' σ' τ' o' n', Tx_euclid N π σ o = some (π', σ', o') ∧ r_readChange N τ 40 n = some (τ', n') ∧ CHo Xo N D P L Kn st cl lo d j seg u v k π σ τ π' σ' τ' o' n' := by
  obtain ⟨x1, x2, x3', ⟨x4, x4'⟩, x5, x6, x7, x8, x9⟩ := id h
  obtain ⟨a0, ⟨b1, b2, b3, b4, b5⟩, c0, d0⟩ := id x2
  have size := a0.2.2.1
  obtain ⟨e1, e2, e3, e4, e5⟩ := x8.b
  have n56 := x1.1
  have hP := x8.1.2.2
  have N3 : 3000 ≤ N := by omega
  have acl : fl σ 222 50 < cl := by
    by_cases c : fl σ 222 50 < cl
    · exact c
    · rw [show fl σ 222 50 = cl by omega, c0] at hb; omega
  obtain ⟨at0, hat0⟩ : ∃ at0, at0 = fl σ 222 50 := ⟨_, rfl⟩
  rw [← hat0] at acl b3 b4
  have t2 : fl τ 2 0 = at0 := by rw [x3', hat0]
  -- the step
  obtain ⟨π1, σ1, s1, s2, s3, s4, s5, s6, s7, s8⟩ := c_spInit (N := N) (π := π) (σ := σ) (kd := 7) (place := at0)
  obtain ⟨s, hs⟩ : ∃ s : Int, s = nn π := ⟨_, rfl⟩
  have hs56 : 56 ≤ s := by omega
  have z1 : ∀ (f : Nat) i, i < 56 → fl σ1 f i = fl σ f i := fun f i hi => s2.2.1 f i (by omega)
  have os : ob π1 s 10 := by rw [hs]; exact s6.1
  have bd1 : BDy Xo π1 σ1 τ D P L Kn := x8.nw (Int.le_refl _) n56 s2
  have i182 : fl σ1 182 1 = 0 := by rw [z1 182 1 (by omega)]; exact x4
  have pre : ∀ X, Tx_euclid_13 N π1 σ1 o s = X → Tx_euclid N π σ o = X := by
    intro X hX
    have fz : fl (zO σ (nn π) dfl) 222 50 = at0 := by rw [fl_zO, if_neg (by omega), hat0]
    rw [Tx_euclid, Tx_euclid_3, fz, s1, Option.bind_some, grd_t (ob_nO π 10 14)]
    simp only
    rw [← hs]; exact hX
  -- what any end of the class gives
  have ft : ∀ σ', EUf s σ1 σ' → XFt (fl σ 23 D) π σ π1 σ' := fun σ' he => by
    have f0 : FRn (nn π) π σ π1 σ1 := s2
    refine ⟨s2.1, fun f i hi y1 y2 y3 => ?_, fun a j ha _ => ?_, Or.inl ?_⟩
    · rw [he.1 f i (by omega) y2 (by omega)]; exact s2.2.1 f i hi
    · rw [he.2]; exact s2.2.2 a j ha
    · rw [he.1 1 _ (by omega) (by omega) (by omega)]; exact s2.2.1 1 _ e2.2
  have bdF : ∀ σ' τ', EUf s σ1 σ' → RDr lo d τ τ' → BDy Xo π1 σ' τ' D P L Kn := fun σ' τ' he hr => by
    have g : ∀ (f : Nat) (i : Int), i < nn π → (f < 182 ∨ 190 ≤ f) → ¬ (i = 50 ∧ (f = 222 ∨ f = 225)) → fl σ' f i = fl σ f i := fun f i hi hf hx => by rw [he.1 f i hx (by omega) (by omega)]; exact s2.2.1 f i hi
    refine x8.mv ⟨s2.1, fun f i y1 y2 y3 => g f i y3 (by unfold inF at y1; omega) (by unfold inF at y1; omega), fun a j _ ha _ => by rw [he.2]; exact s2.2.2 a j ha⟩ (TX.rd hr) ⟨g 22 D e1.2 (by omega) (by omega), g 23 D e1.2 (by omega) (by omega), g 24 D e1.2 (by omega) (by omega)⟩ (fun f x hf hx => g f x (by omega) (by omega) (by omega)) (fun x j hx h0 => by rw [he.2]; exact s2.2.2 _ j (by rcases hx with rfl | rfl <;> omega))
  have xcF : ∀ σ' τ', EUf s σ1 σ' → RDr lo d τ τ' → (st ≤ fl σ' 222 50 ∧ fl σ' 222 50 ≤ cl) → XC Xo π1 σ' τ' D P L Kn st cl := fun σ' τ' he hr hp => ⟨x1.ext s2.1, x2.mv hr ⟨by rw [he.1 181 1 (by omega) (by omega) (by omega)]; exact z1 181 1 (by omega), by rw [he.1 223 50 (by omega) (by omega) (by omega)]; exact z1 223 50 (by omega), fun j => by rw [he.2]; exact s2.2.2 2 j (by omega)⟩ hp, by rw [he.1 221 50 (by omega) (by omega) (by omega), z1 221 50 (by omega)]; exact x7, bdF σ' τ' he hr⟩
  have rmF : ∀ σ', EUf s σ1 σ' → RmX (fl σ 23 D) π σ π1 σ' 4 40 := fun σ' he => by
    have cp : cpc π1 σ' (fl σ 23 D) = cpc π σ (fl σ 23 D) := by
      have q1 : fl σ' 1 (fl σ 23 D) = fl σ 1 (fl σ 23 D) := by rw [he.1 1 _ (by omega) (by omega) (by omega)]; exact s2.2.1 1 _ e2.2
      unfold cpc
      rw [q1]
      by_cases c' : fl σ 1 (fl σ 23 D) < 0
      · rw [if_pos c', if_pos c']
      · rw [if_neg c', if_neg c', (s2.1.2.2 _ e4).2]
    exact ⟨by omega, by rw [cp]; omega⟩
  -- a fault, told alike
  have fault : ∀ σ' τ' n', EUf s σ1 σ' → RDr lo d τ τ' → (st ≤ fl σ' 222 50 ∧ fl σ' 222 50 ≤ cl) → FLT σ' τ' → Tx_euclid N π σ o = some (π1, σ', 0) → r_readChange N τ 40 n = some (τ', n') → fl τ' 41 0 = fl τ 41 0 → (0 ≤ fl τ' 16 0 ∧ fl τ' 16 0 ≤ fl τ 16 0 + 1 ∧ (lo ≤ n' ∧ n' < fl τ' 16 0)) → ∃ π' σ' τ' o' n', Tx_euclid N π σ o = some (π', σ', o') ∧ r_readChange N τ 40 n = some (τ', n') ∧ CHo Xo N D P L Kn st cl lo d j seg u v k π σ τ π' σ' τ' o' n' := fun σ' τ' n' he hr hp hf hc hrr h41 h16 => ⟨π1, σ', τ', 0, n', hc, hrr, ft σ' he, hr, h41, Or.inl ⟨hf, ⟨L, xcF σ' τ' he hr hp, by omega⟩, h16, rmF σ' he⟩⟩
  obtain ⟨op, hop⟩ : ∃ op, op = fl τ 13 0 := ⟨_, rfl⟩
  have k184 : fl σ1 184 1 = op := by rw [z1 184 1 (by omega), x5.1, hop]
  obtain ⟨m, hm⟩ : ∃ m, m = fl τ 16 0 := ⟨_, rfl⟩
  by_cases c20 : op = 20
  · -- too many open
    have fl1 := flS_0 (σ := σ1) (x := 4) (y := at0) i182
    have xs : XFc σ1 (flS σ1 4 at0) := flS_xf (XFc.rf σ1) _ _
    have cl1 : Tx_euclid N π σ o = some (π1, flS σ1 4 at0, 0) := by
      refine pre _ ?_
      rw [Tx_euclid_13, Sc_opens, k184, grd_t (by exact ⟨by omega, by omega⟩), if_neg (by omega), z1 222 50 (by omega), ← hat0, c_fail (by rw [i182]; decide), Option.bind_some, Option.bind_some]
      simp only
      rw [grd_t (by decide), if_pos trivial]
    have g11 : fl (sf τ 2 0 (at0 + 1)) 11 0 = 0 := by rw [fl_sfn _ _ _ _ (by decide)]; exact x4'
    have rr : r_readChange N τ 40 n = some (sf (sf (sf τ 2 0 (at0 + 1)) 11 0 4) 12 0 at0, n) := by
      rw [r_readChange, grd_t (by decide), if_neg (by decide), if_pos rfl, bnd, t2, r_isOpen, fl_sfn _ _ _ _ (by decide), ← hop, grd_t (by exact ⟨by omega, by omega⟩), if_pos c20, r_fail0 g11, Option.bind_some, Option.bind_some]
      simp only
      rw [grd_t (by decide), if_pos trivial]
    have rd : RDr lo d τ (sf (sf (sf τ 2 0 (at0 + 1)) 11 0 4) 12 0 at0) := (((RDr.rf _ _ τ).sf 2 _ (by omega)).sf 11 _ (by omega)).sf 12 _ (by omega)
    refine fault _ _ n ((EUf.rf s σ1).xf xs) rd (by rw [(flS_222 σ1 4 at0).1, z1 222 50 (by omega), ← hat0]; exact ⟨b3, b4⟩) ⟨?_, ?_, ?_⟩ cl1 rr ?_ ?_
    · rw [fl1.1, fl_sfn _ _ _ _ (by decide), fl_sfs]
    · rw [fl1.2, fl_sfs]
    · rw [fl_sfn _ _ _ _ (by decide), fl_sfs]; decide
    · rw [fl_sfn _ _ _ _ (by decide), fl_sfn _ _ _ _ (by decide), fl_sfn _ _ _ _ (by decide)]
    · rw [fl_sfn _ _ _ _ (by decide), fl_sfn _ _ _ _ (by decide), fl_sfn _ _ _ _ (by decide)]; omega
  · obtain ⟨σ2, hσ2⟩ : ∃ σ2, σ2 = sf (sf σ1 184 1 (op + 1)) 222 50 (at0 + 1) := ⟨_, rfl⟩
    have u2 : EUf s σ1 σ2 := by rw [hσ2]; exact ((EUf.rf s σ1).op _).at _
    have g2 : fl σ2 222 50 = at0 + 1 := by rw [hσ2, fl_sfs]
    have g2f : ∀ f i, ¬ (f = 222 ∧ i = 50) → ¬ (f = 184 ∧ i = 1) → fl σ2 f i = fl σ1 f i := fun f i y1 y2 => by rw [hσ2, fl_sf, if_neg y1, fl_sf, if_neg y2]
    have g2184 : fl σ2 184 1 = op + 1 := by rw [hσ2, fl_sfn _ _ _ _ (by decide), fl_sfs]
    -- the reference's node
    obtain ⟨τ1, hτ1⟩ : ∃ τ1, τ1 = sf (sf τ 2 0 (at0 + 1)) 13 0 (op + 1) := ⟨_, rfl⟩
    have n16 : fl τ1 16 0 = m := by rw [hτ1, fl_sfn _ _ _ _ (by decide), fl_sfn _ _ _ _ (by decide), hm]
    obtain ⟨τ2, hτ2⟩ : ∃ τ2, τ2 = nwN τ1 30 at0 := ⟨_, rfl⟩
    have vv := nwN_v τ1 30 at0
    rw [n16, ← hτ2] at vv
    have f1 : ∀ f i, f ≠ 2 → f ≠ 13 → f ≠ 16 → fl τ2 f i = fl τ f i := fun f i y1 y2 y3 => by rw [hτ2, nwN_fl _ _ _ _ _ y3, hτ1, fl_sfn _ _ _ _ y2, fl_sfn _ _ _ _ y1]
    have f2 : fl τ2 2 0 = at0 + 1 := by rw [hτ2, nwN_fl _ _ _ _ _ (by decide), hτ1, fl_sfn _ _ _ _ (by decide), fl_sfs]
    have f13 : fl τ2 13 0 = op + 1 := by rw [hτ2, nwN_fl _ _ _ _ _ (by decide), hτ1, fl_sfs]
    have f16 : fl τ2 16 0 = m + 1 := by rw [hτ2, nwN_16, n16]
    have rd2 : RDr lo d τ τ2 := by rw [hτ2, hτ1]; exact nwN_rd (((RDr.rf _ _ τ).sf 2 _ (by omega)).sf 13 _ (by omega)) _ _ (by rw [fl_sfn _ _ _ _ (by decide), fl_sfn _ _ _ _ (by decide)]; omega)
    have xb2 : XB σ2 τ2 st cl := x2.mv rd2 ⟨by rw [g2f 181 1 (by omega) (by omega)]; exact z1 181 1 (by omega), by rw [g2f 223 50 (by omega) (by omega)]; exact z1 223 50 (by omega), fun j => by rw [u2.2]; exact s2.2.2 2 j (by omega)⟩ (by rw [g2]; omega)
    -- how the reference ends, once spread has ended
    have rfin : ∀ τs, r_spread N τ2 m = some τs → fl τs 13 0 = op + 1 → el τs 87 m = -1 → r_readChange N τ 40 n = some (apN (sf τs 13 0 op) m n, m) := fun τs h1 h2 h3 => by
      rw [r_readChange, grd_t (by decide), if_neg (by decide), if_pos rfl, bnd, t2, r_isOpen, fl_sfn _ _ _ _ (by decide), ← hop, grd_t (by exact ⟨by omega, by omega⟩), if_neg c20, Option.bind_some]
      simp only
      rw [grd_t (by decide), if_neg (by decide), ← hτ1, r_node' (by rw [n16]; omega), Option.bind_some, ← hτ2, n16]
      simp only
      rw [h1, Option.bind_some, h2, show op + 1 - 1 = op by omega, r_readChange_132, r_append' (by exact ⟨by omega, by omega⟩) (by exact ⟨by omega, by omega⟩) (Or.inl (by rw [el_sf]; exact h3)) (by rw [el_sf, h3]; decide), Option.bind_some]
    have pre2 : ∀ X, Option.bind (Tx_number N π1 σ2 0 9999) (fun r15 => grd (ob π1 s 10) (bnd (sf r15.1 202 s r15.2) (fun σ20 => eu23 N π1 σ20 o s (fl r15.1 225 50)))) = X → Tx_euclid N π σ o = X := by
      intro X hX
      refine pre _ ?_
      rw [Tx_euclid_13, Sc_opens, k184, grd_t (by exact ⟨by omega, by omega⟩), if_pos (by omega), Option.bind_some]
      simp only
      rw [grd_t (by decide), if_neg (by decide), bnd, fl_sfn _ _ _ _ (by decide), z1 222 50 (by omega), ← hat0, ← hσ2]
      exact hX
    -- a fault within the brackets
    have fin2 : ∀ σ' τs, EUf s σ1 σ' → (st ≤ fl σ' 222 50 ∧ fl σ' 222 50 ≤ cl) → RDr lo d τ τs → fl τs 13 0 = op + 1 → fl τs 16 0 = m + 1 → fl τs 41 0 = fl τ 41 0 → el τs 87 m = -1 → FLT σ' τs → Tx_euclid N π σ o = some (π1, σ', 0) → r_spread N τ2 m = some τs → ∃ π' σ' τ' o' n', Tx_euclid N π σ o = some (π', σ', o') ∧ r_readChange N τ 40 n = some (τ', n') ∧ CHo Xo N D P L Kn st cl lo d j seg u v k π σ τ π' σ' τ' o' n' := fun σ' τs he hp hr h13 h16 h41 h87 hf hc hsp => by
      refine fault σ' (apN (sf τs 13 0 op) m n) m he (apN_rd (hr.sf 13 _ (by omega)) ⟨by omega, by omega, Or.inl (by rw [el_sf]; exact h87)⟩) hp ?_ hc (rfin τs hsp h13 h87) ?_ ?_
      · unfold FLT at hf ⊢
        rw [apN_fl, apN_fl, fl_sfn _ _ _ _ (by decide), fl_sfn _ _ _ _ (by decide)]; exact hf
      · rw [apN_fl, fl_sfn _ _ _ _ (by decide)]; exact h41
      · rw [apN_fl, fl_sfn _ _ _ _ (by decide), h16]; omega
    have bdG : ∀ σ' τ', EUf s σ1 σ' → RDr lo d τ τ' → BDy Xo π σ' τ' D P L Kn := fun σ' τ' he hr => by
      have g : ∀ (f : Nat) (i : Int), i < nn π → (f < 182 ∨ 190 ≤ f) → ¬ (i = 50 ∧ (f = 222 ∨ f = 225)) → fl σ' f i = fl σ f i := fun f i hi hf hx => by rw [he.1 f i hx (by omega) (by omega)]; exact s2.2.1 f i hi
      exact x8.mv ⟨ext.rf _, fun f i y1 y2 y3 => g f i y3 (by unfold inF at y1; omega) (by unfold inF at y1; omega), fun a j _ ha _ => by rw [he.2]; exact s2.2.2 a j ha⟩ (TX.rd hr) ⟨g 22 D e1.2 (by omega) (by omega), g 23 D e1.2 (by omega) (by omega), g 24 D e1.2 (by omega) (by omega)⟩ (fun f x hf hx => g f x (by omega) (by omega) (by omega)) (fun x j hx h0 => by rw [he.2]; exact s2.2.2 _ j (by rcases hx with rfl | rfl <;> omega))
    -- the closing sign
    have fin3 : ∀ σe τe a b c, EUf s σ1 σe → XB σe τe st cl → fl τe 2 0 = fl σe 222 50 → fl σe 182 1 = 0 → fl τe 11 0 = 0 → (fl σe 202 s = a ∧ fl σe 203 s = b ∧ fl σe 204 s = c) → fl σe 184 1 = op + 1 → RDr lo d τ τe → (∀ f i, f ≠ 2 → f ≠ 4 → f ≠ 11 → f ≠ 12 → fl τe f i = fl τ2 f i) → (∀ x i, ¬ (i = m ∧ 90 ≤ x ∧ x ≤ 92) → el τe x i = el τ2 x i) → (el τe 92 m = a ∧ el τe 91 m = b ∧ el τe 90 m = c) → ((0 ≤ a ∧ a ≤ b) ∧ (1 ≤ b ∧ b ≤ 32) ∧ (0 ≤ c ∧ c ≤ 31)) → at0 < fl σe 222 50 → Tx_euclid N π σ o = Tx_euclid_138 N π1 σe o s → r_spread N τ2 m = r_need N τe 41 → ∃ π' σ' τ' o' n', Tx_euclid N π σ o = some (π', σ', o') ∧ r_readChange N τ 40 n = some (τ', n') ∧ CHo Xo N D P L Kn st cl lo d j seg u v k π σ τ π' σ' τ' o' n' := by
      intro σe τe a b c he hx hat h182 h11 hcf h184 hr hft hfe htn hab hprog hcls hsp
      obtain ⟨σ', τ', q1, q2, q3, q4, q5, q6, q7, q8⟩ := both_take (N := N) (π := π1) (s := 41) N3 hx hat h182 h11 (by decide)
      have i13 : fl τ' 13 0 = op + 1 := by rw [q4.1 13 0 (by decide) (by decide) (by decide) (by decide), hft 13 0 (by decide) (by decide) (by decide) (by decide), f13]
      have i16 : fl τ' 16 0 = m + 1 := by rw [q4.1 16 0 (by decide) (by decide) (by decide) (by decide), hft 16 0 (by decide) (by decide) (by decide) (by decide), f16]
      have i41 : fl τ' 41 0 = fl τ 41 0 := by rw [q4.1 41 0 (by decide) (by decide) (by decide) (by decide), hft 41 0 (by decide) (by decide) (by decide) (by decide), f1 41 0 (by decide) (by decide) (by decide)]
      have i87 : el τ' 87 m = -1 := by rw [q4.2, hfe 87 m (by omega)]; exact vv.2.2.2.2.2.2.2.1
      have ue : EUf s σ1 (sf σ' 184 1 op) := (he.xf q3).op _
      have k184' : fl σ' 184 1 = op + 1 := by rw [q3.1 184 1 (by omega) (by omega)]; exact h184
      have pos : st ≤ fl (sf σ' 184 1 op) 222 50 ∧ fl (sf σ' 184 1 op) 222 50 ≤ cl := by rw [fl_sfn _ _ _ _ (by decide)]; exact ⟨q5.2.1.2.2.1, q5.2.1.2.2.2.1⟩
      have rsp : r_spread N τ2 m = some τ' := by rw [hsp]; exact q2
      have rde : RDr lo d τ τ' := hr.xf q4
      rcases q8 with flt | ⟨o1, o2, o3, o4⟩
      · refine fin2 (sf σ' 184 1 op) τ' ue pos rde i13 i16 i41 i87 ?_ ?_ rsp
        · unfold FLT at flt ⊢
          rw [fl_sfn _ _ _ _ (by decide), fl_sfn _ _ _ _ (by decide)]; exact flt
        · have q182 : fl σ' 182 1 ≠ 0 := by have := flt.1; have := flt.2.2; omega
          rw [hcls, Tx_euclid_138, q1, Option.bind_some, grd_t (by have := flt.1; have := flt.2.2; exact ⟨by omega, by omega⟩), if_neg q182, k184', show op + 1 - 1 = op by omega]
      · -- all is well
        obtain ⟨σf, hσf⟩ : ∃ σf, σf = sf σ' 184 1 op := ⟨_, rfl⟩
        rw [← hσf] at ue pos
        have kf : ∀ f i, ¬ (f = 184 ∧ i = 1) → fl σf f i = fl σ' f i := fun f i hx => by rw [hσf, fl_sf, if_neg hx]
        have bdf : BDy Xo π σf τ D P L Kn := (bdG σf τ ue (RDr.rf _ _ τ))
        have g200 : ∀ f, ¬ (202 ≤ f ∧ f ≤ 204) → fl σf f s = fl σ1 f s := fun f hf => ue.1 f s (by omega) (by omega) (by omega)
        have gs : ∀ f, 202 ≤ f → f ≤ 204 → fl σf f s = fl σe f s := fun f y1 y2 => by rw [kf f s (by omega)]; exact q3.1 f s (by omega) (by omega)
        have fsp : FSp σf (nn π) (kcO 8) at0 a b c 0 0 0 (-1) := by
          rw [← hs] at s5 ⊢
          obtain ⟨y0, y1, y2, y3, y4, y5, y6, y7, y8⟩ := s5
          exact ⟨by rw [g200 200 (by omega)]; exact y0, by rw [g200 201 (by omega)]; exact y1, by rw [gs 202 (by omega) (by omega)]; exact hcf.1, by rw [gs 203 (by omega) (by omega)]; exact hcf.2.1, by rw [gs 204 (by omega) (by omega)]; exact hcf.2.2, by rw [g200 205 (by omega)]; exact y5, by rw [g200 206 (by omega)]; exact y6, by rw [g200 207 (by omega)]; exact y7, by rw [g200 208 (by omega)]; exact y8⟩
        have ops : OPs π1 σf (nn π) (nn π) [] := by
          rw [← hs] at s6 ⊢
          obtain ⟨y1, y2, y3, y4⟩ := s6
          refine ⟨y1, y2, by rw [g200 209 (by omega)]; exact y3, ?_⟩
          rw [g200 210 (by omega)]
          exact ⟨y4.1, y4.2.1, y4.2.2.1, y4.2.2.2.1, trivial⟩
        obtain ⟨π2, σ7, π3, σ8, p1, p2, p3, p4, p5, p6, p7, p8, p9, p10⟩ := c_one1 (N := N) (K := 8) (a := a) (b := b) (c := c) (o := o) x1 bdf (by omega) π1 σf ⟨s2.1, fun _ _ _ => rfl, fun _ _ _ => rfl⟩ fsp ops (by rw [← hs, g200 211 (by omega), g200 212 (by omega), g200 213 (by omega), hs]; exact s7) (by rw [← hs, g200 210 (by omega), hs]; exact s8) ⟨by decide, by decide, by decide, by decide, by decide, by decide⟩ rfl (by rw [if_neg (by decide)]) (fun _ => rfl)
        have k23 : fl σf 23 D = fl σ 23 D := by rw [ue.1 23 D (by omega) (by omega) (by omega)]; exact s2.2.1 23 D e1.2
        rw [k23] at p5 p7
        have cl1 : Tx_euclid N π σ o = some (π3, σ8, P + L.length) := by
          rw [hcls, Tx_euclid_138, q1, Option.bind_some, o1, grd_t (by decide), if_pos rfl, k184', show op + 1 - 1 = op by omega, bnd, ← hσf, hs, p1, Option.bind_some, grd_t p2, Tx_euclid_176]
          have e221 : fl σ' 221 50 = D := by rw [q3.1 221 50 (by omega) (by omega), he.1 221 50 (by omega) (by omega) (by omega), z1 221 50 (by omega)]; exact x7
          simp only
          rw [e221, p3, Option.bind_some, grd_t p4, Tx_euclid_179]
        obtain ⟨τz, hτz⟩ : ∃ τz, τz = apN (sf τ' 13 0 op) m n := ⟨_, rfl⟩
        have rr := rfin τ' rsp i13 i87
        rw [← hτz] at rr
        have rdz : RDr lo d τ τz := by rw [hτz]; exact apN_rd (rde.sf 13 _ (by omega)) ⟨by omega, by omega, Or.inl (by rw [el_sf]; exact i87)⟩
        have zf : ∀ f i, f ≠ 13 → fl τz f i = fl τ' f i := fun f i hf => by rw [hτz, apN_fl, fl_sfn _ _ _ _ hf]
        have z13 : fl τz 13 0 = fl τ 13 0 := by rw [hτz, apN_fl, fl_sfs, hop]
        have z47 : fl τz 47 0 = fl τ 47 0 := by rw [zf 47 0 (by decide), q4.1 47 0 (by decide) (by decide) (by decide) (by decide), hft 47 0 (by decide) (by decide) (by decide) (by decide), f1 47 0 (by decide) (by decide) (by decide)]
        have e87' : el (sf τ' 13 0 op) 87 m = -1 := i87
        have apv : ∀ x i, ¬ (x = 87 ∧ i = m) → ¬ (x = 86 ∧ i = m) → ¬ (x = 85 ∧ i = n) → el τz x i = el τe x i := fun x i y1 y2 y3 => by
          rw [hτz]
          unfold apN
          rw [if_pos e87', el_se, if_neg (by omega), el_se, if_neg (by omega), el_se, if_neg (by omega), el_sf, q4.2]
        have a87 : el τz 87 m = n := by
          rw [hτz]
          unfold apN
          rw [if_pos e87', el_sen _ _ _ _ (by decide), el_sen _ _ _ _ (by decide), el_ses]
        have w8 : ∀ f i, i < 56 → ¬ (i = 50 ∧ (f = 222 ∨ f = 225)) → ¬ (i = 1 ∧ 182 ≤ f ∧ f ≤ 184) → fl σ8 f i = fl σ f i := fun f i hi y z => by rw [p9 f i hi, ue.1 f i y z (by omega), z1 f i hi]
        have at2 : fl τz 2 0 = fl σ8 222 50 := by rw [zf 2 0 (by decide), q7, p9 222 50 (by omega), kf 222 50 (by omega)]
        have ftz : XFt (fl σ 23 D) π σ π3 σ8 := by
          have f0 : XFt (fl σ 23 D) π σ π σf := ⟨ext.rf _, fun f i hi y1 y2 _ => by rw [ue.1 f i (by omega) y2 (by omega)]; exact s2.2.1 f i hi, fun x jj ha _ => by rw [ue.2]; exact s2.2.2 x jj ha, Or.inl (by rw [ue.1 1 _ (by omega) (by omega) (by omega)]; exact s2.2.1 1 _ e2.2)⟩
          exact f0.tr p5
        have qq := x6
        refine ⟨π3, σ8, τz, P + L.length, m, cl1, rr, ftz, rdz, by rw [zf 41 0 (by decide)]; exact i41, Or.inr ⟨(8, at0, a, b, c, 0, 0, [(o, 1, 1)]), ⟨p8, x2.mv rdz ⟨w8 181 1 (by omega) (by omega) (by omega), w8 223 50 (by omega) (by omega) (by omega), fun jj => by rw [p10 jj, ue.2]; exact s2.2.2 2 jj (by omega)⟩ (by rw [p9 222 50 (by omega)]; exact pos), at2, ⟨by rw [p9 182 1 (by omega), kf 182 1 (by omega)]; exact o1, by rw [zf 11 0 (by decide)]; exact o2⟩, by rw [p9 184 1 (by omega), hσf, fl_sfs, z13, ← hop]; exact ⟨rfl, by omega, by omega⟩, ⟨by rw [w8 224 50 (by omega) (by omega) (by omega), z47]; exact x6.1, by rw [z47]; exact x6.2.1, ?_⟩, by rw [w8 221 50 (by omega) (by omega) (by omega)]; exact x7, p6.mv (HP.rf _ _) (TX.rd rdz) ⟨rfl, rfl, rfl⟩ (fun _ _ _ _ => rfl) (fun _ _ _ _ => rfl), by rw [zf 16 0 (by decide)]; omega⟩, z13, hm, by rw [zf 16 0 (by decide), i16, hm], ?_, ?_, ?_, ?_⟩⟩
        · rw [z47, zf 2 0 (by decide), q7]; omega
        · rw [apv 94 m (by omega) (by omega) (by omega), hfe 94 m (by omega), vv.1]; decide
        · rw [zf 16 0 (by decide), i16]
          have := ch_tx (K := 8) (place := at0) (a := a) (b := b) (c := c) (τ' := τz) (hi := m) hN hP.2 (by rw [hm]; exact ht) (by omega) huv (fun x i y1 y2 y3 y4 y5 => by
            rw [apv x i (by omega) (by omega) y5, hfe x i (by omega), hτ2, nwN_el _ _ _ _ _ (by rw [n16]; omega), hτ1, el_sf, el_sf]) (Or.inr (Or.inr (Or.inl ⟨by rw [apv 94 m (by omega) (by omega) (by omega), hfe 94 m (by omega)]; exact vv.1, rfl, by rw [apv 92 m (by omega) (by omega) (by omega)]; exact htn.1, by rw [apv 91 m (by omega) (by omega) (by omega)]; exact htn.2.1, by rw [apv 90 m (by omega) (by omega) (by omega)]; exact htn.2.2⟩))) (by rw [apv 93 m (by omega) (by omega) (by omega), hfe 93 m (by omega)]; exact vv.2.1) a87 (by unfold IV; simp; omega)
          rw [hL.2]
          exact this
        · rw [zf 2 0 (by decide), q7]; omega
        · have cc : cpc π σf (fl σ 23 D) = cpc π σ (fl σ 23 D) := by unfold cpc; rw [ue.1 1 _ (by omega) (by omega) (by omega), s2.2.1 1 _ e2.2]
          exact ⟨by have := p7.1; omega, by have := p7.2; omega⟩
    have x182 : fl σ2 182 1 = 0 := by rw [g2f 182 1 (by omega) (by omega)]; exact i182
    have x11 : fl τ2 11 0 = 0 := by rw [f1 11 0 (by decide) (by decide) (by decide)]; exact x4'
    have er : ∀ τ', EUr m τ2 τ' → fl τ' 13 0 = op + 1 ∧ fl τ' 16 0 = m + 1 ∧ fl τ' 41 0 = fl τ 41 0 ∧ el τ' 87 m = -1 := fun τ' he => ⟨by rw [he.1 13 0 (by decide) (by decide) (by decide) (by decide)]; exact f13, by rw [he.1 16 0 (by decide) (by decide) (by decide) (by decide)]; exact f16, by rw [he.1 41 0 (by decide) (by decide) (by decide) (by decide)]; exact f1 41 0 (by decide) (by decide) (by decide), by rw [he.2 87 m (by omega)]; exact vv.2.2.2.2.2.2.2.1⟩
    have i4 : ∀ x : Int, 1 ≤ x ∧ x ≤ 4 → i32 x ∧ x ≠ 0 := fun x hx => ⟨⟨by omega, by omega⟩, by omega⟩
    have xpos : ∀ {σ' τ' : St}, XB σ' τ' st cl → st ≤ fl σ' 222 50 ∧ fl σ' 222 50 ≤ cl := fun hx => ⟨hx.2.1.2.2.1, hx.2.1.2.2.2.1⟩
    -- the first number
    obtain ⟨σ3, τ3, v1, w1, k1, k2, k3, k4, k5, k6, k7, k8, k9, k10⟩ := both_plain (N := N) (π := π1) N3 xb2 (by rw [f2, g2]) x182 x11
    obtain ⟨σ4, hσ4⟩ : ∃ σ4, σ4 = sf σ3 202 s v1 := ⟨_, rfl⟩
    have u34 : EUf s σ3 σ4 := by rw [hσ4]; exact (EUf.rf s σ3).fld 202 _ (by decide)
    have u4 : EUf s σ1 σ4 := (u2.xf k3).tr u34
    have m4 : ∀ f i, ¬ (f = 202 ∧ i = s) → fl σ4 f i = fl σ3 f i := fun f i hx => by rw [hσ4, fl_sf, if_neg hx]
    have m4s : fl σ4 202 s = v1 := by rw [hσ4, fl_sfs]
    have xb4 : XB σ4 τ3 st cl := k5.eu u34 hs56 (by rw [m4 222 50 (by omega)]; exact xpos k5)
    have cls1 : Tx_euclid N π σ o = eu23 N π1 σ4 o s (fl σ3 225 50) := pre2 _ (by rw [k1, Option.bind_some, grd_t os, bnd, hσ4])
    have e3 : EUr m τ2 τ3 := (EUr.rf m τ2).xf k4
    have at3 : st ≤ fl τ3 2 0 ∧ fl τ3 2 0 ≤ cl := by rw [k6]; exact xpos k5
    have rd3 : RDr lo d τ τ3 := rd2.xf k4
    rcases k10 with flt | ⟨o1, o2, o3, o4, o5, o6⟩
    · obtain ⟨y1, y2⟩ := i4 _ flt.2.2
      obtain ⟨σ', r1, r2, r3, r4, r5, r6⟩ := eu23_any (N := N) (π := π1) (o := o) (s := s) (fa := fl σ3 225 50) N3 xb4 hs56 (by rw [m4 182 1 (by omega), flt.1]; exact y1) (by rw [m4 182 1 (by omega), flt.1]; exact y2) (by rw [m4s]; exact k8)
      obtain ⟨τ', z1', z2, z3, z4, z5⟩ := r_need_any (N := N) (x := 44) N3 xb4 at3 y1 y2
      obtain ⟨i1, i2, i3, i5⟩ := er τ' (e3.xf z2)
      refine fin2 σ' τ' (u4.tr r2) (xpos r3) (rd3.xf z2) i1 i2 i3 i5 ⟨by rw [r4, z3, m4 182 1 (by omega)]; exact flt.1, by rw [r5, z4, m4 183 1 (by omega)]; exact flt.2.1, by rw [z3]; exact flt.2.2⟩ (by rw [cls1, r1]) ?_
      rw [r_spread, k2, Option.bind_some, z1', Option.bind_some, z3, grd_t y1, if_neg y2]
    -- the sign ,
    have o1' : fl σ4 182 1 = 0 := by rw [m4 182 1 (by omega)]; exact o1
    obtain ⟨σ5, τ5, p1, p2, p3, p4, p5, p6, p7, p8⟩ := both_take (N := N) (π := π1) (s := 44) N3 xb4 (by rw [k6, m4 222 50 (by omega)]) o1' o2 (by decide)
    have e5 : EUr m τ2 τ5 := e3.xf p4
    have m5s : fl σ5 202 s = v1 := by rw [p3.1 202 s (by omega) (by omega)]; exact m4s
    rcases p8 with flt | ⟨l1, l2, l3, l4⟩
    · obtain ⟨y1, y2⟩ := i4 _ flt.2.2
      obtain ⟨σ', r1, r2, r3, r4, r5, r6⟩ := eu27_any (N := N) (π := π1) (o := o) (s := s) (fa := fl σ3 225 50) N3 p5 hs56 (by rw [flt.1]; exact y1) (by rw [flt.1]; exact y2) (by rw [m5s]; exact k8)
      obtain ⟨i1, i2, i3, i5⟩ := er τ5 e5
      refine fin2 σ' τ5 ((u4.xf p3).tr r2) (xpos r3) (rd3.xf p4) i1 i2 i3 i5 ⟨by rw [r4]; exact flt.1, by rw [r5]; exact flt.2.1, flt.2.2⟩ (by rw [cls1, eu23, p1, Option.bind_some, r1]) ?_
      rw [r_spread, k2, Option.bind_some, p2, Option.bind_some, grd_t y1, if_neg y2]
    -- the second number
    obtain ⟨σ6, τ6, v2, w2, j1, j2, j3, j4, j5, j6, j7, j8, j9, j10, j11⟩ := both_num (N := N) (π := π1) (a := 1) (b := 32) N3 p5 p7 l1 l2 ⟨⟨by decide, by decide⟩, by decide⟩
    obtain ⟨σ7, hσ7⟩ : ∃ σ7, σ7 = sf σ6 203 s v2 := ⟨_, rfl⟩
    have u67 : EUf s σ6 σ7 := by rw [hσ7]; exact (EUf.rf s σ6).fld 203 _ (by decide)
    have u7 : EUf s σ1 σ7 := ((u4.xf p3).xf j3).tr u67
    have m7 : ∀ f i, ¬ (f = 203 ∧ i = s) → fl σ7 f i = fl σ6 f i := fun f i hx => by rw [hσ7, fl_sf, if_neg hx]
    have m6s : fl σ6 202 s = v1 := by rw [j3.1 202 s (by omega) (by omega)]; exact m5s
    have xb7 : XB σ7 τ6 st cl := j5.eu u67 hs56 (by rw [m7 222 50 (by omega)]; exact xpos j5)
    have e6 : EUr m τ2 τ6 := e5.xf j4
    have rd6 : RDr lo d τ τ6 := (rd3.xf p4).xf j4
    have cls2 : Tx_euclid N π σ o = if v2 < v1 then Option.bind (Sc_fail N π1 σ7 3 (fl σ3 225 50)) (fun r37 => Tx_euclid_94 N π1 r37 o s) else Tx_euclid_94 N π1 σ7 o s := by
      rw [cls1, eu23, p1, Option.bind_some, j1, Option.bind_some]
      simp only
      rw [m6s, grd_t k8, grd_t j10, bnd, ← hσ7]
    have hmb : inb m 32768 := ⟨by omega, by omega⟩
    rcases j11 with flt | ⟨n1, n2, n3, n4, n5, n6⟩
    · obtain ⟨y1, y2⟩ := i4 _ flt.2.2
      have f182 : fl σ7 182 1 = fl τ6 11 0 := by rw [m7 182 1 (by omega)]; exact flt.1
      obtain ⟨σ', r1, r2, r3, r4, r5, r6⟩ := eu94_any (N := N) (π := π1) (o := o) (s := s) N3 xb7 hs56 (by rw [f182]; exact y1) (by rw [f182]; exact y2)
      obtain ⟨i1, i2, i3, i5⟩ := er (se τ6 91 m w2) (e6.se 91 _ (by decide))
      refine fin2 σ' (se τ6 91 m w2) (u7.tr r2) (xpos r3) (rd6.sn 91 m _ (by decide) (by omega)) i1 i2 i3 i5 ⟨by rw [r4, f182]; rfl, by rw [r5, m7 183 1 (by omega)]; exact flt.2.1, flt.2.2⟩ ?_ ?_
      · rw [cls2, c_fail (by rw [f182]; exact y1), flS_n (by rw [f182]; exact y2), Option.bind_some, r1, ite_self]
      · rw [r_spread, k2, Option.bind_some, p2, Option.bind_some, l2, grd_t (by decide), if_pos rfl, j2, Option.bind_some, grd_t hmb, grd_t y1, if_neg y2]
    have hv2 : w2 = v2 := n3.symm
    have hv1 : w1 = v1 := o3.symm
    rw [hv2] at j2
    rw [hv1] at k2
    obtain ⟨τ7, hτ7⟩ : ∃ τ7, τ7 = se (se τ6 91 m v2) 92 m v1 := ⟨_, rfl⟩
    have e7 : EUr m τ2 τ7 := by rw [hτ7]; exact (e6.se 91 _ (by decide)).se 92 _ (by decide)
    have rd7 : RDr lo d τ τ7 := by rw [hτ7]; exact (rd6.sn 91 m _ (by decide) (by omega)).sn 92 m _ (by decide) (by omega)
    have t7 : ∀ f i, fl τ7 f i = fl τ6 f i := fun f i => by rw [hτ7]; rfl
    have xb77 : XB σ7 τ7 st cl := xb7.mv (lo := m) (d := 0) (by rw [hτ7]; exact ((RDr.rf m 0 τ6).sn 91 m _ (by decide) (by omega)).sn 92 m _ (by decide) (by omega)) ⟨rfl, rfl, fun _ => rfl⟩ (xpos xb7)
    have ref2 : r_spread N τ2 m = if v2 < v1 then Option.bind (r_fail N τ7 3 (fl τ3 4 0)) (fun r17 => r_spread_68 N r17 m) else r_spread_68 N τ7 m := by
      rw [r_spread, k2, Option.bind_some, p2, Option.bind_some, l2, grd_t (by decide), if_pos rfl, j2, Option.bind_some, grd_t hmb]
      simp only
      rw [n2, grd_t (by decide), if_pos rfl, grd_t k8, grd_t j10, bnd, ← hτ7]
    have at7 : fl τ7 2 0 = fl σ7 222 50 := by rw [t7, j7, m7 222 50 (by omega)]
    have n1' : fl σ7 182 1 = 0 := by rw [m7 182 1 (by omega)]; exact n1
    have n2' : fl τ7 11 0 = 0 := by rw [t7]; exact n2
    by_cases clt : v2 < v1
    · rw [if_pos clt, c_fail (by rw [n1']; decide), Option.bind_some] at cls2
      rw [if_pos clt, r_fail0 n2', Option.bind_some] at ref2
      obtain ⟨σ8, hσ8⟩ : ∃ σ8, σ8 = flS σ7 3 (fl σ3 225 50) := ⟨_, rfl⟩
      obtain ⟨τ8, hτ8⟩ : ∃ τ8, τ8 = sf (sf τ7 11 0 3) 12 0 (fl τ3 4 0) := ⟨_, rfl⟩
      rw [← hσ8] at cls2
      rw [← hτ8] at ref2
      have h8 := flS_0 (x := 3) (y := fl σ3 225 50) n1'
      have h8' := flS_222 σ7 3 (fl σ3 225 50)
      rw [← hσ8] at h8 h8'
      have xf8 : XFc σ7 σ8 := by rw [hσ8]; exact flS_xf (XFc.rf σ7) _ _
      have xr8 : XFr τ7 τ8 := by rw [hτ8]; exact ⟨fun f i a b c e => by rw [fl_sfn _ _ _ _ e, fl_sfn _ _ _ _ c], fun _ _ => rfl⟩
      have xb8 : XB σ8 τ8 st cl := xb77.xf xf8 xr8 (by rw [h8'.1]; exact (xpos xb77).1) (by rw [h8'.1]; exact (xpos xb77).2)
      have t11 : fl τ8 11 0 = 3 := by rw [hτ8, fl_sfn _ _ _ _ (by decide), fl_sfs]
      have t12 : fl τ8 12 0 = fl τ3 4 0 := by rw [hτ8, fl_sfs]
      have t8at : fl τ8 2 0 = fl σ8 222 50 := by rw [hτ8, fl_sfn _ _ _ _ (by decide), fl_sfn _ _ _ _ (by decide), at7, h8'.1]
      obtain ⟨σ', r1, r2, r3, r4, r5, r6⟩ := eu94_any (N := N) (π := π1) (o := o) (s := s) N3 xb8 hs56 (by rw [h8.1]; decide) (by rw [h8.1]; decide)
      have sk := r_skip' (N := N) N3 xb8 t8at
      obtain ⟨q1, q2, q3, q4⟩ := nb_in xb8
      obtain ⟨τ9, hτ9⟩ : ∃ τ9, τ9 = sf τ8 2 0 (nb τ8 cl (fl σ8 222 50)) := ⟨_, rfl⟩
      rw [← hτ9] at sk
      have xr9 : XFr τ8 τ9 := by rw [hτ9]; exact (XFr.rf τ8).at _
      have t911 : fl τ9 11 0 = 3 := by rw [hτ9, fl_sfn _ _ _ _ (by decide)]; exact t11
      have t912 : fl τ9 12 0 = fl τ3 4 0 := by rw [hτ9, fl_sfn _ _ _ _ (by decide)]; exact t12
      have ps := xpos xb8
      have t92 : st ≤ fl τ9 2 0 ∧ fl τ9 2 0 ≤ cl := by rw [hτ9, fl_sfs]; omega
      have xb9 : XB σ8 τ9 st cl := xb8.xf (XFc.rf σ8) xr9 (xpos xb8).1 (xpos xb8).2
      obtain ⟨τ', z1', z2, z3, z4, z5⟩ := r_need_any (N := N) (x := 41) N3 xb9 t92 (by rw [t911]; decide) (by rw [t911]; decide)
      obtain ⟨i1, i2, i3, i5⟩ := er τ' (((e7.xf xr8).xf xr9).xf z2)
      refine fin2 σ' τ' ((u7.xf xf8).tr r2) (xpos r3) (((rd7.xf xr8).xf xr9).xf z2) i1 i2 i3 i5 ⟨by rw [r4, z3, h8.1, t911], by rw [r5, z4, h8.2, t912, k7], by rw [z3, t911]; decide⟩ (by rw [cls2, r1]) ?_
      rw [ref2, r_spread_68, sk, Option.bind_some, t911, grd_t (by decide), if_neg (by decide), r_spread_115, z1', Option.bind_some]
    · rw [if_neg clt] at cls2 ref2
      obtain ⟨q1, q2, q3, q4⟩ := nb_in xb77
      obtain ⟨k, hk⟩ : ∃ k, k = nb τ7 cl (fl σ7 222 50) := ⟨_, rfl⟩
      rw [← hk] at q1 q2
      have ps := xpos xb77
      have csk := c_skip (N := N) (π := π1) N3 xb77
      have rsk := r_skip' (N := N) N3 xb77 at7
      rw [← hk] at csk rsk
      obtain ⟨σ8, hσ8⟩ : ∃ σ8, σ8 = sf σ7 222 50 k := ⟨_, rfl⟩
      obtain ⟨τ8, hτ8⟩ : ∃ τ8, τ8 = sf τ7 2 0 k := ⟨_, rfl⟩
      rw [← hσ8] at csk
      rw [← hτ8] at rsk
      have xf8 : XFc σ7 σ8 := by rw [hσ8]; exact (XFc.rf σ7).at _
      have xr8 : XFr τ7 τ8 := by rw [hτ8]; exact (XFr.rf τ7).at _
      have at8 : fl σ8 222 50 = k := by rw [hσ8, fl_sfs]
      have at8' : fl τ8 2 0 = k := by rw [hτ8, fl_sfs]
      have xb8 : XB σ8 τ8 st cl := xb77.xf xf8 xr8 (by rw [at8]; omega) (by rw [at8]; omega)
      have m8 : ∀ f i, ¬ (f = 222 ∧ i = 50) → fl σ8 f i = fl σ7 f i := fun f i hx => by rw [hσ8, fl_sf, if_neg hx]
      have s182 : fl σ8 182 1 = 0 := by rw [m8 182 1 (by omega)]; exact n1'
      have s11 : fl τ8 11 0 = 0 := by rw [hτ8, fl_sfn _ _ _ _ (by decide)]; exact n2'
      have hby : bA τ8 k = bA τ k := bA_rd (rd7.xf xr8) k
      have c1 : Tx_here N π1 σ8 = some (σ8, bA τ8 k) := by rw [c_here xb8, at8]
      have c2 : r_byteAt N τ8 (fl τ8 2 0) = some (τ8, bA τ8 k) := by rw [at8', rr_byteAt xb8.1 (by exact ⟨by omega, by omega⟩)]
      have byb : i32 (bA τ8 k) := by
        by_cases ck : k < cl
        · have := xb8.2.2.2 k (by omega) ck; exact ⟨by omega, by omega⟩
        · have := xb8.2.2.1; rw [show k = cl by omega, this]; decide
      have cls3 : Tx_euclid N π σ o = if bA τ8 k = 44 then Option.bind (Tx_number N π1 (sf σ8 222 50 (k + 1)) 0 31) (fun r56 => Tx_euclid_138 N π1 (sf r56.1 204 s r56.2) o s) else Tx_euclid_138 N π1 σ8 o s := by
        rw [cls2, Tx_euclid_94, csk, Option.bind_some, s182, grd_t (by decide), if_pos rfl, c1, Option.bind_some]
        simp only
        rw [grd_t byb, bnd, at8]
        simp only [grd_t os]
      have ref3 : r_spread N τ2 m = if bA τ8 k = 44 then Option.bind (r_numberIn N (sf τ8 2 0 (k + 1)) 0 31) (fun r29 => r_spread_115 N (se r29.1 90 m r29.2)) else r_spread_115 N τ8 := by
        rw [ref2, r_spread_68, rsk, Option.bind_some, s11, grd_t (by decide), if_pos rfl, c2, Option.bind_some]
        simp only
        rw [grd_t byb, bnd, at8']
        simp only [grd_t hmb]
      have need : ∀ t, r_spread_115 N t = r_need N t 41 := fun t => by
        rw [r_spread_115]; cases r_need N t 41 <;> rfl
      have u8 : EUf s σ1 σ8 := u7.xf xf8
      have e8 : EUr m τ2 τ8 := e7.xf xr8
      have rd8 : RDr lo d τ τ8 := rd7.xf xr8
      have s184 : ∀ σ', XFc σ2 σ' → True := fun _ _ => trivial
      have g8184 : fl σ8 184 1 = op + 1 := by rw [m8 184 1 (by omega), m7 184 1 (by omega), j3.1 184 1 (by omega) (by omega), p3.1 184 1 (by omega) (by omega), m4 184 1 (by omega), k3.1 184 1 (by omega) (by omega)]; exact g2184
      have g8202 : fl σ8 202 s = v1 := by rw [m8 202 s (by omega), m7 202 s (by omega)]; exact m6s
      have g8203 : fl σ8 203 s = v2 := by rw [m8 203 s (by omega), hσ7, fl_sfs]
      have y92 : el τ8 92 m = v1 := by rw [hτ8, el_sf, hτ7, el_ses]
      have y91 : el τ8 91 m = v2 := by rw [hτ8, el_sf, hτ7, el_sen _ _ _ _ (by decide), el_ses]
      have prog : at0 < fl σ8 222 50 := by
        rw [at8]
        have : fl σ7 222 50 = fl σ6 222 50 := m7 222 50 (by omega)
        have : fl σ4 222 50 = fl σ3 222 50 := m4 222 50 (by omega)
        omega
      by_cases c44 : bA τ8 k = 44
      · rw [if_pos c44] at cls3 ref3
        have kcl : k < cl := by
          by_cases ck : k < cl
          · exact ck
          · have := xb8.2.2.1; rw [show k = cl by omega, this] at c44; exact absurd c44 (by decide)
        obtain ⟨σ9, hσ9⟩ : ∃ σ9, σ9 = sf σ8 222 50 (k + 1) := ⟨_, rfl⟩
        obtain ⟨τ9, hτ9⟩ : ∃ τ9, τ9 = sf τ8 2 0 (k + 1) := ⟨_, rfl⟩
        rw [← hσ9] at cls3
        rw [← hτ9] at ref3
        have xf9 : XFc σ8 σ9 := by rw [hσ9]; exact (XFc.rf σ8).at _
        have xr9 : XFr τ8 τ9 := by rw [hτ9]; exact (XFr.rf τ8).at _
        have at9 : fl σ9 222 50 = k + 1 := by rw [hσ9, fl_sfs]
        have at9' : fl τ9 2 0 = k + 1 := by rw [hτ9, fl_sfs]
        have xb9 : XB σ9 τ9 st cl := xb8.xf xf9 xr9 (by rw [at9]; omega) (by rw [at9]; omega)
        have s182' : fl σ9 182 1 = 0 := by rw [hσ9, fl_sfn _ _ _ _ (by decide)]; exact s182
        have s11' : fl τ9 11 0 = 0 := by rw [hτ9, fl_sfn _ _ _ _ (by decide)]; exact s11
        obtain ⟨σ10, τ10, v3, w3, d1, d2, d3, d4, d5, d6, d7, d8, d9, d10, d11⟩ := both_num (N := N) (π := π1) (a := 0) (b := 31) N3 xb9 (by rw [at9, at9']) s182' s11' ⟨⟨by decide, by decide⟩, by decide⟩
        obtain ⟨σe, hσe⟩ : ∃ σe, σe = sf σ10 204 s v3 := ⟨_, rfl⟩
        obtain ⟨τe, hτe⟩ : ∃ τe, τe = se τ10 90 m w3 := ⟨_, rfl⟩
        rw [d1, Option.bind_some] at cls3
        rw [d2, Option.bind_some, need] at ref3
        simp only at cls3 ref3
        rw [← hσe] at cls3
        rw [← hτe] at ref3
        have uee : EUf s σ10 σe := by rw [hσe]; exact (EUf.rf s σ10).fld 204 _ (by decide)
        have ue : EUf s σ1 σe := ((u8.xf xf9).xf d3).tr uee
        have me : ∀ f i, ¬ (f = 204 ∧ i = s) → fl σe f i = fl σ10 f i := fun f i hx => by rw [hσe, fl_sf, if_neg hx]
        have ee : EUr m τ2 τe := by rw [hτe]; exact ((e8.xf xr9).xf d4).se 90 _ (by decide)
        have rde : RDr lo d τ τe := by rw [hτe]; exact ((rd8.xf xr9).xf d4).sn 90 m _ (by decide) (by omega)
        have te : ∀ f i, fl τe f i = fl τ10 f i := fun f i => by rw [hτe]; rfl
        have xbe : XB σe τe st cl := d5.mv (lo := m) (d := 0) (by rw [hτe]; exact (RDr.rf m 0 τ10).sn 90 m _ (by decide) (by omega)) ⟨me 181 1 (by omega), me 223 50 (by omega), fun j => by rw [hσe]; rfl⟩ (by rw [me 222 50 (by omega)]; exact xpos d5)
        have ate : fl τe 2 0 = fl σe 222 50 := by rw [te, d7, me 222 50 (by omega)]
        rcases d11 with flt | ⟨h1, h2, h3, h4, h5, h6⟩
        · obtain ⟨y1, y2⟩ := i4 _ flt.2.2
          have f182 : fl σe 182 1 = fl τ10 11 0 := by rw [me 182 1 (by omega)]; exact flt.1
          obtain ⟨σ', r1, r2, r3, r4, r5, r6⟩ := eu138_any (N := N) (π := π1) (o := o) (s := s) N3 xbe hs56 (by rw [f182]; exact y1) (by rw [f182]; exact y2)
          obtain ⟨τ', z1', z2, z3, z4, z5⟩ := r_need_any (N := N) (x := 41) N3 xbe (by rw [ate]; exact xpos xbe) (by rw [te]; exact y1) (by rw [te]; exact y2)
          obtain ⟨i1, i2, i3, i5⟩ := er τ' (ee.xf z2)
          exact fin2 σ' τ' (ue.tr r2) (xpos r3) (rde.xf z2) i1 i2 i3 i5 ⟨by rw [r4, z3, f182, te], by rw [r5, z4, te, me 183 1 (by omega)]; exact flt.2.1, by rw [z3, te]; exact flt.2.2⟩ (by rw [cls3, r1]) (by rw [ref3, z1'])
        · refine fin3 σe τe v1 v2 v3 ue xbe ate (by rw [me 182 1 (by omega)]; exact h1) (by rw [te]; exact h2) ⟨?_, ?_, by rw [hσe, fl_sfs]⟩ ?_ rde ee.1 ee.2 ⟨?_, ?_, by rw [hτe, el_ses, h3]⟩ ⟨⟨by omega, by omega⟩, ⟨by omega, by omega⟩, by omega, by omega⟩ ?_ cls3 ref3
          · rw [me 202 s (by omega), d3.1 202 s (by omega) (by omega), xf9.1 202 s (by omega) (by omega)]; exact g8202
          · rw [me 203 s (by omega), d3.1 203 s (by omega) (by omega), xf9.1 203 s (by omega) (by omega)]; exact g8203
          · rw [me 184 1 (by omega), d3.1 184 1 (by omega) (by omega), xf9.1 184 1 (by omega) (by omega)]; exact g8184
          · rw [hτe, el_sen _ _ _ _ (by decide), d4.2, xr9.2]; exact y92
          · rw [hτe, el_sen _ _ _ _ (by decide), d4.2, xr9.2]; exact y91
          · rw [me 222 50 (by omega)]; omega
      · rw [if_neg c44] at cls3 ref3
        rw [need] at ref3
        refine fin3 σ8 τ8 v1 v2 0 u8 xb8 (by rw [at8, at8']) s182 s11 ⟨g8202, g8203, ?_⟩ g8184 rd8 e8.1 e8.2 ⟨y92, y91, ?_⟩ ⟨⟨by omega, by omega⟩, ⟨by omega, by omega⟩, by decide, by decide⟩ prog cls3 ref3
        · rw [m8 204 s (by omega), m7 204 s (by omega), j3.1 204 s (by omega) (by omega), p3.1 204 s (by omega) (by omega), m4 204 s (by omega), k3.1 204 s (by omega) (by omega), g2f 204 s (by omega) (by omega)]
          rw [← hs] at s5
          exact s5.2.2.2.2.1
        · rw [hτ8, el_sf, hτ7, el_sen _ _ _ _ (by decide), el_sen _ _ _ _ (by decide), j4.2, p4.2, k4.2]
          exact vv.2.2.2.2.1
end EV
