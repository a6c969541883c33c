/-! numbers in a text -/
section TX2
variable {N : Nat} {π : Sh}
theorem c_number {σ τ : St} {st cl a b : Int} {j : Int} {e : Nat} (hN : 3000 ≤ N) (h : XB σ τ st cl) (hf : i32 (fl σ 182 1)) (ha : i32 a ∧ i32 b) (hj : j = nb τ cl (fl σ 222 50)) (he : j + e ≤ cl) (hA : ∀ i, j ≤ i → i < j + e → isDg (bA τ i)) (hB : ¬ isDg (bA τ (j + e))) : ∃ σ' v, Tx_number N π σ a b = some (σ', v) ∧ XFc σ σ' ∧ fl σ' 222 50 = j + ((min e 4 : Nat) : Int) ∧ fl σ' 225 50 = j ∧ v = (if 1 ≤ e ∧ e ≤ 4 then dvl τ j e else -1) ∧ (fl σ 182 1 ≠ 0 → fl σ' 182 1 = fl σ 182 1 ∧ fl σ' 183 1 = fl σ 183 1) ∧ (fl σ 182 1 = 0 → (¬ (1 ≤ e ∧ e ≤ 4) → fl σ' 182 1 = 1 ∧ fl σ' 183 1 = j + ((min e 4 : Nat) : Int)) ∧ ((1 ≤ e ∧ e ≤ 4) → (v < a ∨ b < v) → fl σ' 182 1 = 3 ∧ fl σ' 183 1 = j) ∧ ((1 ≤ e ∧ e ≤ 4) → a ≤ v → v ≤ b → fl σ' 182 1 = 0)) := by
  obtain ⟨q1, q2, q3, q4⟩ := nb_in h
  obtain ⟨a0, ⟨b1, b2, b3, b4, b5⟩, c0, d0⟩ := id h
  have size := a0.2.2.1
  obtain ⟨σ1, hσ1⟩ : ∃ σ1, σ1 = sf σ 222 50 j := ⟨_, rfl⟩
  have c1 : XFc σ σ1 := by rw [hσ1]; exact (XFc.rf σ).at _
  have f1 : fl σ1 222 50 = j := by rw [hσ1, fl_sfs]
  have x1 : XB σ1 τ st cl := h.xf c1 (XFr.rf τ) (by omega) (by omega)
  have dg := c_digits_lp (N := N) (π := π) x1 (k := j) (by omega) e he hA hB 4 (by omega) (min e 4) N 0 (sf σ1 225 50 j) (by omega) (by omega) ((XFc.rf σ1).dg _) (by rw [fl_sfn _ _ _ _ (by decide), f1]; omega) (fl_sfs _ _ _ _)
  obtain ⟨σ2, hσ2⟩ : ∃ σ2, σ2 = sf (sf σ1 225 50 j) 222 50 (j + ((min e 4 : Nat) : Int)) := ⟨_, rfl⟩
  rw [← hσ2] at dg
  obtain ⟨v, hv⟩ : ∃ v, v = if 1 ≤ e ∧ e ≤ 4 then dvl τ j e else -1 := ⟨_, rfl⟩
  rw [← hv] at dg
  have c2 : XFc σ σ2 := by rw [hσ2]; exact (c1.dg _).at _
  have g222 : fl σ2 222 50 = j + ((min e 4 : Nat) : Int) := by rw [hσ2, fl_sfs]
  have g225 : fl σ2 225 50 = j := by rw [hσ2, fl_sfn _ _ _ _ (by decide), fl_sfs]
  have g182 : fl σ2 182 1 = fl σ 182 1 := by rw [hσ2, fl_sfn _ _ _ _ (by decide), fl_sfn _ _ _ _ (by decide), hσ1, fl_sfn _ _ _ _ (by decide)]
  have g183 : fl σ2 183 1 = fl σ 183 1 := by rw [hσ2, fl_sfn _ _ _ _ (by decide), fl_sfn _ _ _ _ (by decide), hσ1, fl_sfn _ _ _ _ (by decide)]
  have vb : -1 ≤ v ∧ v < 10000 := by
    rw [hv]
    by_cases c : 1 ≤ e ∧ e ≤ 4
    · rw [if_pos c]
      have d := dvl_b hA
      have : (10 : Int) ^ e ≤ 10000 := by rcases (show e = 1 ∨ e = 2 ∨ e = 3 ∨ e = 4 by omega) with rfl | rfl | rfl | rfl <;> decide
      omega
    · rw [if_neg c]; omega
  have v0 : 1 ≤ e ∧ e ≤ 4 → 0 ≤ v := fun c => by rw [hv, if_pos c]; exact (dvl_b hA).1
  have un : ∀ X, (if v = -1 then some (flS σ2 1 (j + ((min e 4 : Nat) : Int)), v) else if v < a then some (flS σ2 3 j, v) else if b < v then some (flS σ2 3 j, v) else some (σ2, v)) = X → Tx_number N π σ a b = X := by
    intro X hX
    rw [← hX, Tx_number, c_skip hN h, ← hj, ← hσ1, Option.bind_some, Tx_digits, f1]
    rw [show dvl τ j 0 = 0 from rfl] at dg
    have dg' : Tx_digits_18 N π N (sf σ1 225 50 j) 4 0 = some (σ2, v) := dg
    rw [dg', Option.bind_some]
    simp only
    rw [grd_t (by exact ⟨by omega, by omega⟩), g222, c_fail (by rw [g182]; exact hf), Option.bind_some, Tx_number_40, g225, c_fail (by rw [g182]; exact hf), Option.bind_some, grd_t ha.1, grd_t ha.2]
  have s1 := flS_222 σ2 1 (j + ((min e 4 : Nat) : Int))
  have s3 := flS_222 σ2 3 j
  by_cases c : 1 ≤ e ∧ e ≤ 4
  · have := v0 c
    rw [if_neg (by omega)] at un
    by_cases cv : v < a ∨ b < v
    · have r : Tx_number N π σ a b = some (flS σ2 3 j, v) := by
        refine un _ ?_
        by_cases ca : v < a
        · rw [if_pos ca]
        · rw [if_neg ca, if_pos (by omega)]
      refine ⟨flS σ2 3 j, v, r, flS_xf c2 _ _, by rw [s3.1]; exact g222, by rw [s3.2]; exact g225, hv, fun hn => ?_, fun h0 => ⟨fun hn => absurd c hn, fun _ _ => flS_0 (by rw [g182]; exact h0), fun _ h1 h2 => by omega⟩⟩
      rw [flS_n (by rw [g182]; exact hn)]; exact ⟨g182, g183⟩
    · have r : Tx_number N π σ a b = some (σ2, v) := by
        refine un _ ?_
        rw [if_neg (by omega), if_neg (by omega)]
      exact ⟨σ2, v, r, c2, g222, g225, hv, fun _ => ⟨g182, g183⟩, fun h0 => ⟨fun hn => absurd c hn, fun _ h => absurd h cv, fun _ _ _ => by rw [g182]; exact h0⟩⟩
  · have vm : v = -1 := by rw [hv, if_neg c]
    rw [if_pos vm] at un
    refine ⟨_, v, un _ rfl, flS_xf c2 _ _, by rw [s1.1]; exact g222, by rw [s1.2]; exact g225, hv, fun hn => ?_, fun h0 => ⟨fun _ => flS_0 (by rw [g182]; exact h0), fun hc => absurd hc c, fun hc => absurd hc c⟩⟩
    rw [flS_n (by rw [g182]; exact hn)]; exact ⟨g182, g183⟩
theorem r_plain_lp {σ τ0 : St} (hT : RTp σ τ0) {j : Int} (j0 : 0 ≤ j) (e : Nat) (he : j + e < fl τ0 1 0) (hA : ∀ i, j ≤ i → i < j + e → isDg (bA τ0 i)) (hB : ¬ isDg (bA τ0 (j + e))) : ∀ (m n d : Nat) (τ : St), m < n → d + m = min e 4 → XFr τ0 τ → fl τ 2 0 = j + d → fl τ 11 0 = 0 → r_plainNumber_41 N n τ (dvl τ0 j d) d = some (if e ≤ 4 then (sf τ 2 0 (j + e), dvl τ0 j e) else (sf (sf (sf τ 2 0 (j + 4)) 11 0 1) 12 0 (j + 4), 0)) := by
  have size := hT.2.2.1
  intro m
  induction m with
  | zero =>
    intro n d τ hn hd hr h2 h11
    obtain ⟨n, rfl⟩ : ∃ q, n = q + 1 := ⟨n - 1, by omega⟩
    have bb := bA_rg hT (j + d)
    have hT' := hT.xf (XFc.rf σ) hr
    rw [r_plainNumber_41, h2, rr_byteAt hT' (by exact ⟨by omega, by omega⟩), Option.bind_some, bA_xf hr, rr_isDigit (by exact ⟨by omega, by omega⟩), Option.bind_some]
    by_cases c : e ≤ 4
    · have ed : d = e := by omega
      rw [if_neg (by rw [ed]; exact hB), grd_t (by decide), if_pos rfl, if_pos c, ed, sf_id (by rw [h2, ed])]
    · have ed : (d : Int) = 4 := by omega
      rw [if_pos (hA _ (by omega) (by omega)), grd_t (by decide), if_neg (by decide), grd_t (by exact ⟨by omega, by omega⟩), if_pos ed, if_neg c]
      simp only
      rw [h2, r_fail0 h11, Option.bind_some, ed, sf_id (show fl τ 2 0 = j + 4 by rw [h2, ed])]
  | succ m ih =>
    intro n d τ hn hd hr h2 h11
    obtain ⟨n, rfl⟩ : ∃ q, n = q + 1 := ⟨n - 1, by omega⟩
    have bb := bA_rg hT (j + d)
    have hT' := hT.xf (XFc.rf σ) hr
    have q := ih n (d + 1) (sf τ 2 0 (j + d + 1)) (by omega) (by omega) (hr.at _) (by rw [fl_sfs]; omega) (by rw [fl_sfn _ _ _ _ (by decide)]; exact h11)
    rw [sf_sf, sf_sf] at q
    rw [r_plainNumber_41, h2, rr_byteAt hT' (by exact ⟨by omega, by omega⟩), Option.bind_some, bA_xf hr, rr_isDigit (by exact ⟨by omega, by omega⟩), Option.bind_some, if_pos (hA _ (by omega) (by omega)), grd_t (by decide), if_neg (by decide), grd_t (by exact ⟨by omega, by omega⟩), if_neg (by omega)]
    simp only
    rw [h2, rr_byteAt hT' (by exact ⟨by omega, by omega⟩), Option.bind_some, bnd, bA_xf hr]
    rw [show dvl τ0 j (d + 1) = 10 * dvl τ0 j d + bA τ0 (j + d) - 48 by show dvl τ0 j d * 10 + bA τ0 (j + d) - 48 = _; omega] at q
    simp only
    rw [h2]
    exact q
theorem r_plain' {σ τ : St} {st cl : Int} {j : Int} {e : Nat} (hN : 3000 ≤ N) (h : XB σ τ st cl) (hat : fl τ 2 0 = fl σ 222 50) (h11 : fl τ 11 0 = 0) (hj : j = nb τ cl (fl σ 222 50)) (he : j + e ≤ cl) (hA : ∀ i, j ≤ i → i < j + e → isDg (bA τ i)) (hB : ¬ isDg (bA τ (j + e))) : ∃ τ' w, r_plainNumber N τ = some (τ', w) ∧ XFr τ τ' ∧ fl τ' 2 0 = j + ((min e 4 : Nat) : Int) ∧ fl τ' 4 0 = j ∧ ((1 ≤ e ∧ e ≤ 4) → w = dvl τ j e ∧ fl τ' 11 0 = 0) ∧ (¬ (1 ≤ e ∧ e ≤ 4) → w = 0 ∧ fl τ' 11 0 = 1 ∧ fl τ' 12 0 = j + ((min e 4 : Nat) : Int)) := by
  obtain ⟨q1, q2, q3, q4⟩ := nb_in h
  obtain ⟨a0, ⟨b1, b2, b3, b4, b5⟩, c0, d0⟩ := id h
  have size := a0.2.2.1
  obtain ⟨τ1, hτ1⟩ : ∃ τ1, τ1 = sf (sf τ 2 0 j) 4 0 j := ⟨_, rfl⟩
  have r1 : XFr τ τ1 := by rw [hτ1]; exact ((XFr.rf τ).at _).tk _
  have f2 : fl τ1 2 0 = j := by rw [hτ1, fl_sfn _ _ _ _ (by decide), fl_sfs]
  have f4 : fl τ1 4 0 = j := by rw [hτ1, fl_sfs]
  have f11 : fl τ1 11 0 = 0 := by rw [hτ1, fl_sfn _ _ _ _ (by decide), fl_sfn _ _ _ _ (by decide)]; exact h11
  have bb := bA_rg a0 j
  have hT1 := a0.xf (XFc.rf σ) r1
  have un : ∀ X, (if isDg (bA τ j) then r_plainNumber_41 N N τ1 0 0 else some (sf (sf τ1 11 0 1) 12 0 j, 0)) = X → r_plainNumber N τ = X := by
    intro X hX
    rw [← hX, r_plainNumber, r_skip' hN h hat, ← hj, Option.bind_some, bnd, fl_sfs, ← hτ1, rr_byteAt hT1 (by exact ⟨by omega, by omega⟩), Option.bind_some, bA_xf r1, rr_isDigit (by exact ⟨by omega, by omega⟩), Option.bind_some]
    by_cases c : isDg (bA τ j)
    · rw [if_pos c, if_pos c, grd_t (by decide), if_neg (by decide)]
    · rw [if_neg c, if_neg c, grd_t (by decide), if_pos rfl]
      simp only
      rw [f2, r_fail0 f11, Option.bind_some]
  by_cases c1 : 1 ≤ e
  · have dj := hA j (by omega) (by omega)
    rw [if_pos dj] at un
    have q := r_plain_lp (N := N) a0 (j := j) (by omega) e (by omega) hA hB (min e 4) N 0 τ1 (by omega) (by omega) r1 (by rw [f2]; omega) f11
    rw [show dvl τ j 0 = 0 from rfl] at q
    have r := un _ q
    by_cases c4 : e ≤ 4
    · rw [if_pos c4] at r
      refine ⟨_, _, r, r1.at _, by rw [fl_sfs]; omega, by rw [fl_sfn _ _ _ _ (by decide)]; exact f4, fun _ => ⟨rfl, by rw [fl_sfn _ _ _ _ (by decide)]; exact f11⟩, fun h => absurd ⟨c1, c4⟩ h⟩
    · rw [if_neg c4] at r
      refine ⟨_, _, r, (r1.at _).tr ⟨fun f i _ _ a b => by rw [fl_sfn _ _ _ _ b, fl_sfn _ _ _ _ a], fun _ _ => rfl⟩, by rw [fl_sfn _ _ _ _ (by decide), fl_sfn _ _ _ _ (by decide), fl_sfs]; omega, by rw [fl_sfn _ _ _ _ (by decide), fl_sfn _ _ _ _ (by decide), fl_sfn _ _ _ _ (by decide)]; exact f4, fun h => absurd h.2 c4, fun _ => ⟨rfl, by rw [fl_sfn _ _ _ _ (by decide), fl_sfs], by rw [fl_sfs]; omega⟩⟩
  · have e0 : e = 0 := by omega
    subst e0
    rw [show j + ((0 : Nat) : Int) = j by omega] at hB
    rw [if_neg hB] at un
    refine ⟨_, _, un _ rfl, r1.tr ⟨fun f i _ _ a b => by rw [fl_sfn _ _ _ _ b, fl_sfn _ _ _ _ a], fun _ _ => rfl⟩, by rw [fl_sfn _ _ _ _ (by decide), fl_sfn _ _ _ _ (by decide), f2]; simp, by rw [fl_sfn _ _ _ _ (by decide), fl_sfn _ _ _ _ (by decide)]; exact f4, fun h => absurd h.1 (by omega), fun _ => ⟨rfl, by rw [fl_sfn _ _ _ _ (by decide), fl_sfs], by rw [fl_sfs]; simp⟩⟩
/-- both faults are the same -/
def FLT (σ τ : St) : Prop := fl σ 182 1 = fl τ 11 0 ∧ fl σ 183 1 = fl τ 12 0 ∧ (1 ≤ fl τ 11 0 ∧ fl τ 11 0 ≤ 4)
/-- both read a number of a text -/
theorem both_num {σ τ : St} {st cl a b : Int} (hN : 3000 ≤ N) (h : XB σ τ st cl) (hat : fl τ 2 0 = fl σ 222 50) (h182 : fl σ 182 1 = 0) (h11 : fl τ 11 0 = 0) (ha : (0 ≤ a ∧ a ≤ b) ∧ b ≤ 9999) : ∃ σ' τ' v w, Tx_number N π σ a b = some (σ', v) ∧ r_numberIn N τ a b = some (τ', w) ∧ XFc σ σ' ∧ XFr τ τ' ∧ XB σ' τ' st cl ∧ fl σ 222 50 ≤ fl σ' 222 50 ∧ fl τ' 2 0 = fl σ' 222 50 ∧ fl τ' 4 0 = fl σ' 225 50 ∧ (st ≤ fl σ' 225 50 ∧ fl σ' 225 50 ≤ cl) ∧ i32 v ∧ ((FLT σ' τ') ∨ (fl σ' 182 1 = 0 ∧ fl τ' 11 0 = 0 ∧ v = w ∧ a ≤ v ∧ v ≤ b ∧ fl σ 222 50 < fl σ' 222 50)) := by
  obtain ⟨q1, q2, q3, q4⟩ := nb_in h
  obtain ⟨a0, ⟨b1, b2, b3, b4, b5⟩, c0, d0⟩ := id h
  have size := a0.2.2.1
  obtain ⟨j, hj⟩ : ∃ j, j = nb τ cl (fl σ 222 50) := ⟨_, rfl⟩
  rw [← hj] at q1 q2
  obtain ⟨e, e1, e2, e3⟩ := dg_run h (k := j) (by omega) q2
  obtain ⟨σ', v, s1, s2, s3, s4, s5, -, s6⟩ := c_number (N := N) (π := π) (a := a) (b := b) hN h (by rw [h182]; decide) ⟨⟨by omega, by omega⟩, by omega, by omega⟩ hj e1 e2 e3
  obtain ⟨t1, t2, t3⟩ := s6 h182
  obtain ⟨τ', w, r1, r2, r3, r4, r5, r6⟩ := r_plain' (N := N) hN h hat h11 hj e1 e2 e3
  have vb : i32 v := by
    rw [s5]
    by_cases c : 1 ≤ e ∧ e ≤ 4
    · rw [if_pos c]
      have d := dvl_b e2
      have : (10 : Int) ^ e ≤ 10000 := by rcases (show e = 1 ∨ e = 2 ∨ e = 3 ∨ e = 4 by omega) with rfl | rfl | rfl | rfl <;> decide
      exact ⟨by omega, by omega⟩
    · rw [if_neg c]; decide
  have xb' : ∀ τ'', XFr τ τ'' → XB σ' τ'' st cl := fun τ'' hr => h.xf s2 hr (by omega) (by omega)
  by_cases c : 1 ≤ e ∧ e ≤ 4
  · obtain ⟨w1, w2⟩ := r5 c
    rw [if_pos c] at s5
    have vw : v = w := by rw [s5, w1]
    by_cases cv : v < a ∨ b < v
    · obtain ⟨u1, u2⟩ := t2 c cv
      have rn : r_numberIn N τ a b = some (sf (sf τ' 11 0 3) 12 0 j, w) := by
        rw [r_numberIn, r1, Option.bind_some, w2, grd_t (by decide), if_pos rfl]
        simp only
        rw [grd_t (by rw [← vw]; exact vb), grd_t (by exact ⟨by omega, by omega⟩), grd_t (by exact ⟨by omega, by omega⟩), r_numberIn_22, r4, r_fail0 w2, Option.bind_some]
        by_cases ca : w < a
        · rw [if_pos ca]
        · rw [if_neg ca, if_pos (by omega)]
      have rr : XFr τ (sf (sf τ' 11 0 3) 12 0 j) := r2.tr ⟨fun f i _ _ a b => by rw [fl_sfn _ _ _ _ b, fl_sfn _ _ _ _ a], fun _ _ => rfl⟩
      exact ⟨σ', _, v, w, s1, rn, s2, rr, xb' _ rr, by omega, by rw [fl_sfn _ _ _ _ (by decide), fl_sfn _ _ _ _ (by decide), r3, s3], by rw [fl_sfn _ _ _ _ (by decide), fl_sfn _ _ _ _ (by decide), r4, s4], by omega, vb, Or.inl ⟨by rw [u1, fl_sfn _ _ _ _ (by decide), fl_sfs], by rw [u2, fl_sfs], by rw [fl_sfn _ _ _ _ (by decide), fl_sfs]; omega⟩⟩
    · have rn : r_numberIn N τ a b = some (τ', w) := by
        rw [r_numberIn, r1, Option.bind_some, w2, grd_t (by decide), if_pos rfl]
        simp only
        rw [grd_t (by rw [← vw]; exact vb), grd_t (by exact ⟨by omega, by omega⟩), grd_t (by exact ⟨by omega, by omega⟩), if_neg (by omega), if_neg (by omega)]
      exact ⟨σ', τ', v, w, s1, rn, s2, r2, xb' _ r2, by omega, by rw [r3, s3], by rw [r4, s4], by omega, vb, Or.inr ⟨t3 c (by omega) (by omega), w2, vw, by omega, by omega, by omega⟩⟩
  · obtain ⟨w1, w2, w3⟩ := r6 c
    obtain ⟨u1, u2⟩ := t1 c
    have rn : r_numberIn N τ a b = some (τ', w) := by
      rw [r_numberIn, r1, Option.bind_some, w2, grd_t (by decide), if_neg (by decide)]
    exact ⟨σ', τ', v, w, s1, rn, s2, r2, xb' _ r2, by omega, by rw [r3, s3], by rw [r4, s4], by omega, vb, Or.inl ⟨by rw [u1, w2], by rw [u2, w3], by rw [w2]; omega⟩⟩
/-- the class reads a number, whatever stands -/
theorem c_num_any {σ τ : St} {st cl a b : Int} (hN : 3000 ≤ N) (h : XB σ τ st cl) (hf : i32 (fl σ 182 1)) (ha : i32 a ∧ i32 b) (hn : fl σ 182 1 ≠ 0) : ∃ σ' v, Tx_number N π σ a b = some (σ', v) ∧ XFc σ σ' ∧ XB σ' τ st cl ∧ (st ≤ fl σ' 225 50 ∧ fl σ' 225 50 ≤ cl) ∧ i32 v ∧ fl σ' 182 1 = fl σ 182 1 ∧ fl σ' 183 1 = fl σ 183 1 := by
  obtain ⟨q1, q2, q3, q4⟩ := nb_in h
  obtain ⟨a0, ⟨b1, b2, b3, b4, b5⟩, c0, d0⟩ := id h
  have size := a0.2.2.1
  obtain ⟨j, hj⟩ : ∃ j, j = nb τ cl (fl σ 222 50) := ⟨_, rfl⟩
  rw [← hj] at q1 q2
  obtain ⟨e, e1, e2, e3⟩ := dg_run h (k := j) (by omega) q2
  obtain ⟨σ', v, s1, s2, s3, s4, s5, s6, -⟩ := c_number (N := N) (π := π) (a := a) (b := b) hN h hf ha hj e1 e2 e3
  refine ⟨σ', v, s1, s2, h.xf s2 (XFr.rf τ) (by omega) (by omega), by omega, ?_, s6 hn⟩
  rw [s5]
  by_cases c : 1 ≤ e ∧ e ≤ 4
  · rw [if_pos c]
    have d := dvl_b e2
    have : (10 : Int) ^ e ≤ 10000 := by rcases (show e = 1 ∨ e = 2 ∨ e = 3 ∨ e = 4 by omega) with rfl | rfl | rfl | rfl <;> decide
    exact ⟨by omega, by omega⟩
  · rw [if_neg c]; decide
/-- a sign that must stand -/
theorem x_tak {σ τ : St} {st cl s : Int} (hN : 3000 ≤ N) (h : XB σ τ st cl) (hf : i32 (fl σ 182 1)) (hs : 33 ≤ s ∧ s ≤ 126 ∧ s ≠ 34) : ∃ j, j = nb τ cl (fl σ 222 50) ∧ Tx_take N π σ s = some (if bA τ j = s then sf (sf σ 222 50 j) 222 50 (j + 1) else flS (sf σ 222 50 j) 1 j) ∧ (bA τ j = s → j < cl) := by
  obtain ⟨q1, q2, q3, q4⟩ := nb_in h
  obtain ⟨a0, ⟨b1, b2, b3, b4, b5⟩, c0, d0⟩ := id h
  have size := a0.2.2.1
  refine ⟨_, rfl, ?_, fun e => ?_⟩
  · have f1 : fl (sf σ 222 50 (nb τ cl (fl σ 222 50))) 222 50 = nb τ cl (fl σ 222 50) := fl_sfs _ _ _ _
    have x1 : XB (sf σ 222 50 (nb τ cl (fl σ 222 50))) τ st cl := h.xf ((XFc.rf σ).at _) (XFr.rf τ) (by omega) (by omega)
    have bb := bA_rg a0 (nb τ cl (fl σ 222 50))
    rw [Tx_take, c_skip hN h, Option.bind_some, c_here x1, Option.bind_some, f1]
    simp only
    rw [grd_t (by exact ⟨by omega, by omega⟩), grd_t (by exact ⟨by omega, by omega⟩)]
    by_cases c : bA τ (nb τ cl (fl σ 222 50)) = s
    · rw [if_pos c, if_pos c]
    · rw [if_neg c, if_neg c, c_fail (by rw [fl_sfn _ _ _ _ (by decide)]; exact hf), Option.bind_some]
  · by_cases c : nb τ cl (fl σ 222 50) < cl
    · exact c
    · rw [show nb τ cl (fl σ 222 50) = cl by omega, c0] at e; omega
theorem x_tak_any {σ τ : St} {st cl s : Int} (hN : 3000 ≤ N) (h : XB σ τ st cl) (hf : i32 (fl σ 182 1)) (hs : 33 ≤ s ∧ s ≤ 126 ∧ s ≠ 34) (hn : fl σ 182 1 ≠ 0) : ∃ σ', Tx_take N π σ s = some σ' ∧ XFc σ σ' ∧ XB σ' τ st cl ∧ fl σ' 182 1 = fl σ 182 1 ∧ fl σ' 183 1 = fl σ 183 1 := by
  obtain ⟨q1, q2, q3, q4⟩ := nb_in h
  obtain ⟨-, ⟨b1, b2, b3, b4, b5⟩, -⟩ := id h
  obtain ⟨j, hj, t1, t2⟩ := x_tak (N := N) (π := π) hN h hf hs
  rw [← hj] at q1 q2
  have c1 : XFc σ (sf σ 222 50 j) := (XFc.rf σ).at _
  by_cases c : bA τ j = s
  · rw [if_pos c] at t1
    have := t2 c
    exact ⟨_, t1, c1.at _, h.xf (c1.at _) (XFr.rf τ) (by rw [fl_sfs]; omega) (by rw [fl_sfs]; omega), by rw [fl_sfn _ _ _ _ (by decide), fl_sfn _ _ _ _ (by decide)], by rw [fl_sfn _ _ _ _ (by decide), fl_sfn _ _ _ _ (by decide)]⟩
  · rw [if_neg c, flS_n (by rw [fl_sfn _ _ _ _ (by decide)]; exact hn)] at t1
    exact ⟨_, t1, c1, h.xf c1 (XFr.rf τ) (by rw [fl_sfs]; omega) (by rw [fl_sfs]; omega), by rw [fl_sfn _ _ _ _ (by decide)], by rw [fl_sfn _ _ _ _ (by decide)]⟩
theorem both_take {σ τ : St} {st cl s : Int} (hN : 3000 ≤ N) (h : XB σ τ st cl) (hat : fl τ 2 0 = fl σ 222 50) (h182 : fl σ 182 1 = 0) (h11 : fl τ 11 0 = 0) (hs : 33 ≤ s ∧ s ≤ 126 ∧ s ≠ 34) : ∃ σ' τ', Tx_take N π σ s = some σ' ∧ r_need N τ s = some τ' ∧ XFc σ σ' ∧ XFr τ τ' ∧ XB σ' τ' st cl ∧ fl σ 222 50 ≤ fl σ' 222 50 ∧ fl τ' 2 0 = fl σ' 222 50 ∧ (FLT σ' τ' ∨ (fl σ' 182 1 = 0 ∧ fl τ' 11 0 = 0 ∧ fl σ 222 50 < fl σ' 222 50 ∧ bA τ (fl σ' 222 50 - 1) = s)) := by
  obtain ⟨q1, q2, q3, q4⟩ := nb_in h
  obtain ⟨a0, ⟨b1, b2, b3, b4, b5⟩, c0, d0⟩ := id h
  have size := a0.2.2.1
  obtain ⟨j, hj, t1, t2⟩ := x_tak (N := N) (π := π) hN h (by rw [h182]; decide) hs
  rw [← hj] at q1 q2
  have c1 : XFc σ (sf σ 222 50 j) := (XFc.rf σ).at _
  have r1 : XFr τ (sf τ 2 0 j) := (XFr.rf τ).at _
  have bb := bA_rg a0 j
  have g11 : fl (sf τ 2 0 j) 11 0 = 0 := by rw [fl_sfn _ _ _ _ (by decide)]; exact h11
  have hT1 := a0.xf (XFc.rf σ) r1
  have rn : r_need N τ s = some (if bA τ j = s then sf (sf τ 2 0 j) 2 0 (j + 1) else sf (sf (sf τ 2 0 j) 11 0 1) 12 0 j) := by
    rw [r_need, r_skip' hN h hat, ← hj, Option.bind_some, g11, grd_t (by decide), if_pos rfl, fl_sfs, rr_byteAt hT1 (by exact ⟨by omega, by omega⟩), Option.bind_some, bA_xf r1, grd_t (by exact ⟨by omega, by omega⟩), grd_t (by exact ⟨by omega, by omega⟩)]
    simp only
    rw [fl_sfs]
    by_cases c : bA τ j = s
    · rw [if_pos c, if_pos c]
    · rw [if_neg c, if_neg c, r_fail0 g11, Option.bind_some]
  by_cases c : bA τ j = s
  · rw [if_pos c] at t1 rn
    have := t2 c
    exact ⟨_, _, t1, rn, c1.at _, r1.at _, h.xf (c1.at _) (r1.at _) (by rw [fl_sfs]; omega) (by rw [fl_sfs]; omega), by rw [fl_sfs]; omega, by rw [fl_sfs, fl_sfs], Or.inr ⟨by rw [fl_sfn _ _ _ _ (by decide), fl_sfn _ _ _ _ (by decide)]; exact h182, by rw [fl_sfn _ _ _ _ (by decide)]; exact g11, by rw [fl_sfs]; omega, by rw [fl_sfs, show j + 1 - 1 = j by omega]; exact c⟩⟩
  · rw [if_neg c] at t1 rn
    have f0 := flS_0 (σ := sf σ 222 50 j) (x := 1) (y := j) (by rw [fl_sfn _ _ _ _ (by decide)]; exact h182)
    have f2 := (flS_222 (sf σ 222 50 j) 1 j).1
    rw [fl_sfs] at f2
    have rr : XFr τ (sf (sf (sf τ 2 0 j) 11 0 1) 12 0 j) := r1.tr ⟨fun f i _ _ a b => by rw [fl_sfn _ _ _ _ b, fl_sfn _ _ _ _ a], fun _ _ => rfl⟩
    exact ⟨_, _, t1, rn, flS_xf c1 _ _, rr, h.xf (flS_xf c1 _ _) rr (by omega) (by omega), by omega, by rw [fl_sfn _ _ _ _ (by decide), fl_sfn _ _ _ _ (by decide), fl_sfs, f2], Or.inl ⟨by rw [f0.1, fl_sfn _ _ _ _ (by decide), fl_sfs], by rw [f0.2, fl_sfs], by rw [fl_sfn _ _ _ _ (by decide), fl_sfs]; omega⟩⟩
end TX2
