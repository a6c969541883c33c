/-! a word as a part -/
section PW
variable {N : Nat} {Xo : Int → Prop}
theorem lt_run {σ τ : St} {st cl : Int} (h : XB σ τ st cl) {k : Int} (k0 : st ≤ k) (k1 : k ≤ cl) : ∃ e : Nat, k + e ≤ cl ∧ (∀ i, k ≤ i → i < k + e → isLt (bA τ i)) ∧ ¬ isLt (bA τ (k + e)) := by
  obtain ⟨a, ⟨b1, b2, b3, b4, b5⟩, c, d⟩ := id h
  have : ∀ (m : Nat) (k : Int), k + m = cl → ∃ e : Nat, k + e ≤ cl ∧ (∀ i, k ≤ i → i < k + e → isLt (bA τ i)) ∧ ¬ isLt (bA τ (k + e)) := by
    intro m
    induction m with
    | zero =>
      intro k hk
      exact ⟨0, by omega, fun i x y => by omega, by rw [show k + ((0 : Nat) : Int) = cl by omega, c]; omega⟩
    | succ m ih =>
      intro k hk
      by_cases q : isLt (bA τ k)
      · obtain ⟨e, e1, e2, e3⟩ := ih (k + 1) (by omega)
        refine ⟨e + 1, by omega, fun i x y => ?_, by rw [show k + ((e + 1 : Nat) : Int) = k + 1 + e by omega]; exact e3⟩
        by_cases g : i = k
        · rw [g]; exact q
        · exact e2 i (by omega) (by omega)
      · exact ⟨0, by omega, fun i x y => by omega, by rw [show k + ((0 : Nat) : Int) = k by omega]; exact q⟩
  exact this (cl - k).toNat k (by omega)
theorem lts_lt {τ : St} {k : Int} : ∀ (d : Nat), (∀ i, k ≤ i → i < k + d → isLt (bA τ i)) → wd8 (lts τ k d) < 256 ^ d
  | 0, _ => (by decide : (0 : Int) < 256 ^ 0)
  | d + 1, h => by
    have z := lts_lt (τ := τ) (k := k) d (fun i x y => h i x (by omega))
    have e1 : lts τ k (d + 1) = lts τ k d ++ [bA τ (k + d) - 96] := rfl
    rw [e1, wd8_snoc, lts_len, Int.pow_succ]
    have lt' := h (k + d) (by omega) (by omega)
    have pp := ppos (b := 256) (by decide) d
    have : (bA τ (k + d) - 96 + 96) * 256 ^ d ≤ 122 * 256 ^ d := Int.mul_le_mul_of_nonneg_right (by omega) (by omega)
    omega
theorem c_word_lp {π : Sh} {σ0 τ : St} {st cl s k : Int} (hx : XB σ0 τ st cl) (hs : ob π s 10 ∧ 56 ≤ s) (h182 : i32 (fl σ0 182 1)) (hk : st ≤ k) (e : Nat) (he : k + e ≤ cl) (hA : ∀ i, k ≤ i → i < k + e → isLt (bA τ i)) (hB : ¬ isLt (bA τ (k + e))) : ∀ (m n d : Nat) (σ : St), m < n → d + m = min e 8 → (∀ f i, ¬ (f = 222 ∧ i = 50) → ¬ (f = 207 ∧ i = s) → fl σ f i = fl σ0 f i) → (∀ a j, el σ a j = el σ0 a j) → fl σ 222 50 = k + d → fl σ 207 s = wd8 (lts τ k d) → ∃ σ', (∀ f i, ¬ (f = 222 ∧ i = 50) → ¬ (f = 207 ∧ i = s) → fl σ' f i = fl σ0 f i) ∧ (∀ a j, el σ' a j = el σ0 a j) ∧ fl σ' 222 50 = k + ((min e 8 : Nat) : Int) ∧ (e ≤ 8 → fl σ' 207 s = wd8 (lts τ k e)) ∧ Tx_word_15 N n π σ s d = if e ≤ 8 then Tx_word_86 N π σ' s else some (π, flS σ' 1 (k + 8), 0) := by
  obtain ⟨a0, ⟨b1, b2, b3, b4, b5⟩, c0, d0⟩ := id hx
  have size := a0.2.2.1
  have xbm : ∀ σ : St, (∀ f i, ¬ (f = 222 ∧ i = 50) → ¬ (f = 207 ∧ i = s) → fl σ f i = fl σ0 f i) → (∀ a j, el σ a j = el σ0 a j) → st ≤ fl σ 222 50 → fl σ 222 50 ≤ cl → XB σ τ st cl := fun σ h1 h2 h3 h4 => hx.mv (RDr.rf 0 0 τ) ⟨h1 181 1 (by omega) (by omega), h1 223 50 (by omega) (by omega), fun j => h2 2 j⟩ ⟨h3, h4⟩
  intro m
  induction m with
  | zero =>
    intro n d σ hn hd h1 h2 h3 h4
    obtain ⟨n, rfl⟩ : ∃ q, n = q + 1 := ⟨n - 1, by omega⟩
    have xb := xbm σ h1 h2 (by omega) (by omega)
    have bb := bA_rg a0 (k + d)
    refine ⟨σ, h1, h2, by omega, fun q => by rw [h4, show d = e by omega], ?_⟩
    rw [Tx_word_15, grd_t (by exact ⟨by omega, by omega⟩), if_neg (by omega), c_here xb, Option.bind_some, h3, c_isLetter (by exact ⟨by omega, by omega⟩), Option.bind_some]
    by_cases c : e ≤ 8
    · have ed : d = e := by omega
      rw [← ed] at hB
      rw [if_neg hB, grd_t (by decide), if_pos rfl, if_pos c]
    · rw [if_pos (hA _ (by omega) (by omega)), grd_t (by decide), if_neg (by decide), if_pos (by omega), if_neg c]
      simp only
      rw [c_fail (by rw [h1 182 1 (by omega) (by omega)]; exact h182), Option.bind_some, show (d : Int) = 8 by omega]
  | succ m ih =>
    intro n d σ hn hd h1 h2 h3 h4
    obtain ⟨n, rfl⟩ : ∃ q, n = q + 1 := ⟨n - 1, by omega⟩
    have xb := xbm σ h1 h2 (by omega) (by omega)
    have lt := hA (k + d) (by omega) (by omega)
    have ok : okL (lts τ k d) := lts_ok (fun i x y => hA i x (by omega))
    have len := lts_len τ k d
    have w0 := wd8_0 ok
    have w1 := wd8_lt d ok (by omega)
    have w2 : wd8 (lts τ k d) < 256 ^ d := lts_lt d (fun i x y => hA i x (by omega))
    have nw : lor (fl σ 207 s) (lshl (bA τ (k + d)) (8 * d)) = wd8 (lts τ k (d + 1)) := by
      rw [h4, lshl_8 d (by omega) (by omega) (by omega) (by omega), Int.toNat_natCast, lor_8 d w0 w2 (by omega) (by omega) (by omega)]
      show _ = wd8 (lts τ k d ++ [bA τ (k + d) - 96])
      rw [wd8_snoc, len, show bA τ (k + d) - 96 + 96 = bA τ (k + d) by omega]
    obtain ⟨σ2, hσ2⟩ : ∃ σ2, σ2 = sf (sf σ 207 s (wd8 (lts τ k (d + 1)))) 222 50 (k + d + 1) := ⟨_, rfl⟩
    obtain ⟨σ', p1, p2, p3, p4, p5⟩ := ih n (d + 1) σ2 (by omega) (by omega) (fun f i x y => by rw [hσ2, fl_sf, if_neg (by omega), fl_sf, if_neg y]; exact h1 f i x y) (fun a j => by rw [hσ2]; exact h2 a j) (by rw [hσ2, fl_sfs]; omega) (by rw [hσ2, fl_sfn _ _ _ _ (by decide), fl_sfs])
    refine ⟨σ', p1, p2, p3, p4, ?_⟩
    rw [← p5, Tx_word_15, grd_t (by exact ⟨by omega, by omega⟩), if_neg (by omega), c_here xb, Option.bind_some, h3, c_isLetter (by exact ⟨by omega, by omega⟩), if_pos lt, Option.bind_some, grd_t (by decide), if_neg (by decide), if_neg (by omega), grd_t hs.1]
    simp only
    rw [c_here xb, Option.bind_some, h3]
    simp only
    rw [grd_t (by exact ⟨by omega, by omega⟩), nw, ← hσ2]
    rfl
theorem r_word_lp {σ τ0 : St} (hT : RTp σ τ0) {k n0 d0 x : Int} (k0 : 0 ≤ k) (hx : inb x 32768 ∧ n0 ≤ x) (e : Nat) (he : k + e < fl τ0 1 0) (hA : ∀ i, k ≤ i → i < k + e → isLt (bA τ0 i)) (hB : ¬ isLt (bA τ0 (k + e))) : ∀ (m n d : Nat) (τ : St), m + 1 < n → d + m = min e 8 → RDr n0 d0 τ0 τ → fl τ 2 0 = k + d → fl τ 11 0 = 0 → el τ 92 x = lpA τ0 k d → el τ 91 x = lpB τ0 k d → ∃ τ', RDr n0 d0 τ0 τ' ∧ (∀ f i, f ≠ 2 → f ≠ 11 → f ≠ 12 → fl τ' f i = fl τ f i) ∧ (∀ a j, ¬ (j = x ∧ (a = 91 ∨ a = 92)) → el τ' a j = el τ a j) ∧ (e ≤ 8 → fl τ' 2 0 = k + e ∧ fl τ' 11 0 = 0 ∧ el τ' 92 x = lpA τ0 k e ∧ el τ' 91 x = lpB τ0 k e) ∧ (8 < e → fl τ' 11 0 = 1 ∧ fl τ' 12 0 = k + 8) ∧ r_readPart_52 N n τ x d = r_readPart_177 N τ' x := by
  have size := hT.2.2.1
  have bar : ∀ {τ : St}, RDr n0 d0 τ0 τ → ∀ j, i32 j → r_byteAt N τ j = some (τ, bA τ0 j) := fun {τ} hr j hj => by
    have hT' : RTp σ τ := by
      unfold RTp
      rw [hr.1 1 0 (by omega) (by decide) (by decide) (by decide) (by decide)]
      obtain ⟨p, q, r, s⟩ := hT
      exact ⟨p, q, r, fun j j0 j1 => by rw [hr.2.1 97 j (by omega) (by omega)]; exact s j j0 j1⟩
    rw [rr_byteAt hT' hj, bA_rd hr]
  intro m
  induction m with
  | zero =>
    intro n d τ hn hd hr h2 h11 h92 h91
    obtain ⟨n, rfl⟩ : ∃ q, n = q + 2 := ⟨n - 2, by omega⟩
    have bb := bA_rg hT (k + d)
    by_cases c : e ≤ 8
    · have ed : d = e := by omega
      refine ⟨τ, hr, fun _ _ _ _ _ => rfl, fun _ _ _ => rfl, fun _ => ⟨by rw [h2, ed], h11, by rw [h92, ed], by rw [h91, ed]⟩, fun q => by omega, ?_⟩
      rw [r_readPart_52, h2, bar hr _ ⟨by omega, by omega⟩, Option.bind_some, rr_isLow (by exact ⟨by omega, by omega⟩), if_neg (by rw [ed]; exact hB), Option.bind_some, grd_t (by decide), if_pos rfl]
    · have ed : (d : Int) = 8 := by omega
      have bb9 := bA_rg hT (k + 9)
      obtain ⟨τ1, hτ1⟩ : ∃ τ1, τ1 = sf (sf (sf τ 11 0 1) 12 0 (k + 8)) 2 0 (k + 9) := ⟨_, rfl⟩
      have r1 : RDr n0 d0 τ0 τ1 := by rw [hτ1]; exact ((hr.sf 11 _ (by omega)).sf 12 _ (by omega)).sf 2 _ (by omega)
      have g11 : fl τ1 11 0 = 1 := by rw [hτ1, fl_sfn _ _ _ _ (by decide), fl_sfn _ _ _ _ (by decide), fl_sfs]
      have g12 : fl τ1 12 0 = k + 8 := by rw [hτ1, fl_sfn _ _ _ _ (by decide), fl_sfs]
      have g2 : fl τ1 2 0 = k + 9 := by rw [hτ1, fl_sfs]
      refine ⟨τ1, r1, fun f i y1 y2 y3 => by rw [hτ1, fl_sfn _ _ _ _ y1, fl_sfn _ _ _ _ y3, fl_sfn _ _ _ _ y2], fun _ _ _ => by rw [hτ1]; rfl, fun q => absurd q c, fun _ => ⟨g11, g12⟩, ?_⟩
      rw [r_readPart_52, h2, bar hr _ ⟨by omega, by omega⟩, Option.bind_some, rr_isLow (by exact ⟨by omega, by omega⟩), if_pos (hA _ (by omega) (by omega)), Option.bind_some, grd_t (by decide), if_neg (by decide)]
      simp only
      rw [h11, grd_t (by decide), if_pos rfl, grd_t (by exact ⟨by omega, by omega⟩), if_pos ed, h2, r_fail0 h11, Option.bind_some, ed, r_readPart_161, fl_sfn _ _ _ _ (by decide), fl_sfn _ _ _ _ (by decide), h2, ed, show k + 8 + 1 = k + 9 by omega, ← hτ1, r_readPart_52, g2, bar r1 _ ⟨by omega, by omega⟩, Option.bind_some, rr_isLow (by exact ⟨by omega, by omega⟩), Option.bind_some]
      by_cases c9 : isLt (bA τ0 (k + 9))
      · rw [if_pos c9, grd_t (by decide), if_neg (by decide)]
        simp only
        rw [g11, grd_t (by decide), if_neg (by decide)]
      · rw [if_neg c9, grd_t (by decide), if_pos rfl]
  | succ m ih =>
    intro n d τ hn hd hr h2 h11 h92 h91
    obtain ⟨n, rfl⟩ : ∃ q, n = q + 1 := ⟨n - 1, by omega⟩
    have lt := hA (k + d) (by omega) (by omega)
    obtain ⟨st1, st2, st3, st4⟩ := lp_step (τ := τ0) (k := k) (m := d) (fun i a b => hA i a (by omega)) (by omega)
    obtain ⟨τ1, hτ1⟩ : ∃ τ1, τ1 = sf (if (d : Int) < 4 then se τ 92 x (lpA τ0 k (d + 1)) else se τ 91 x (lpB τ0 k (d + 1))) 2 0 (k + d + 1) := ⟨_, rfl⟩
    have r1 : RDr n0 d0 τ0 τ1 := by
      rw [hτ1]
      split
      · exact (hr.sn 92 x _ (by omega) hx.2).sf 2 _ (by omega)
      · exact (hr.sn 91 x _ (by omega) hx.2).sf 2 _ (by omega)
    have f1 : ∀ f i, f ≠ 2 → fl τ1 f i = fl τ f i := fun f i hf => by
      rw [hτ1, fl_sfn _ _ _ _ hf]; split <;> rfl
    have g2 : fl τ1 2 0 = k + d + 1 := by rw [hτ1, fl_sfs]
    have a92 : el τ1 92 x = lpA τ0 k (d + 1) := by
      rw [hτ1, el_sf]
      by_cases c : (d : Int) < 4
      · rw [if_pos c, el_ses]
      · rw [if_neg c, el_sen _ _ _ _ (by decide), h92]; exact ((st2 (by omega)).1).symm
    have a91 : el τ1 91 x = lpB τ0 k (d + 1) := by
      rw [hτ1, el_sf]
      by_cases c : (d : Int) < 4
      · rw [if_pos c, el_sen _ _ _ _ (by decide), h91]; exact ((st1 (by omega)).2).symm
      · rw [if_neg c, el_ses]
    have ae : ∀ a j, ¬ (j = x ∧ (a = 91 ∨ a = 92)) → el τ1 a j = el τ a j := fun a j hj => by
      rw [hτ1, el_sf]
      split
      · rw [el_se, if_neg (by omega)]
      · rw [el_se, if_neg (by omega)]
    obtain ⟨τ', p1, p2, p3, p4, p5, p6⟩ := ih n (d + 1) τ1 (by omega) (by omega) r1 (by rw [g2]; omega) (by rw [f1 11 0 (by decide)]; exact h11) a92 a91
    refine ⟨τ', p1, fun f i y1 y2 y3 => by rw [p2 f i y1 y2 y3, f1 f i y1], fun a j hj => by rw [p3 a j hj, ae a j hj], p4, p5, ?_⟩
    rw [← p6, r_readPart_52, h2, bar hr _ ⟨by omega, by omega⟩, Option.bind_some, rr_isLow (by exact ⟨by omega, by omega⟩), if_pos lt, Option.bind_some, grd_t (by decide), if_neg (by decide)]
    simp only
    rw [h11, grd_t (by decide), if_pos rfl, grd_t (by exact ⟨by omega, by omega⟩), if_neg (by omega)]
    by_cases c : (d : Int) < 4
    · have q := ior_5 st3.1 (st3.2 (by omega)) (c := bA τ0 (k + d) - 97 + 1) (by omega) (by omega)
      rw [if_pos c, grd_t hx.1, h2, bar hr _ ⟨by omega, by omega⟩, Option.bind_some, h92]
      simp only
      rw [q, show lpA τ0 k d * 32 + (bA τ0 (k + d) - 97 + 1) = lpA τ0 k (d + 1) by rw [(st1 (by omega)).1]; omega, r_readPart_161]
      rw [if_pos c] at hτ1
      rw [fl_se, h2, ← hτ1]
      rfl
    · have q := ior_5 st4.1 st4.2 (c := bA τ0 (k + d) - 97 + 1) (by omega) (by omega)
      rw [if_neg c, grd_t hx.1, h2, bar hr _ ⟨by omega, by omega⟩, Option.bind_some, h91]
      simp only
      rw [q, show lpB τ0 k d * 32 + (bA τ0 (k + d) - 97 + 1) = lpB τ0 k (d + 1) by rw [(st2 (by omega)).2]; omega, r_readPart_161]
      rw [if_neg c] at hτ1
      rw [fl_se, h2, ← hτ1]
      rfl
theorem pt_word {π : Sh} {σ τ : St} {D P st cl d : Int} {L : List Stq} {Kn : List Int} {rP : Sh → St → Option (Sh × St × Int)} (hN : 30000001 ≤ N) (h : XS Xo π σ τ D P L Kn st cl) (hF : FR12 τ d 12 0) (hL : L.length ≤ 19000) (hn : fl τ 16 0 + 3 ≤ 32768) (hb : isLt (bA τ (fl σ 222 50))) : ∃ π' σ' τ' o, Tx_part N rP π σ = some (π', σ', o) ∧ RLp N 1 τ τ' ∧ PTo Xo N D P L Kn st cl d π σ τ π' σ' τ' o := by
  obtain ⟨x1, x2, x3, ⟨x4, x4'⟩, x5, x6, x7, x8, x9⟩ := id h
  obtain ⟨a0, ⟨b1, b2, b3, b4, b5⟩, c0, d0⟩ := id x2
  obtain ⟨f1, f2, f3, f4, f5⟩ := hF
  have size := a0.2.2.1
  obtain ⟨e1, e2, e3, e4, e5⟩ := x8.b
  have n56 := x1.1
  obtain ⟨k, hk⟩ : ∃ k, k = fl σ 222 50 := ⟨_, rfl⟩
  have t2 : fl τ 2 0 = k := by rw [x3, hk]
  rw [← hk] at hb b3 b4
  obtain ⟨e, g1, g2, g3⟩ := lt_run x2 (k := k) b3 b4
  have ge1 : 1 ≤ e := by
    by_cases c : e = 0
    · subst c
      rw [show k + ((0 : Nat) : Int) = k by omega] at g3
      exact absurd hb g3
    · omega
  have mq : st ≤ k + ((min e 8 : Nat) : Int) ∧ k + ((min e 8 : Nat) : Int) ≤ cl ∧ k + (e : Int) < fl τ 1 0 := by omega
  have mle : e ≤ 8 → k + ((min e 8 : Nat) : Int) = k + e := fun q => by rw [Nat.min_eq_left q]
  have bb := bA_rg a0 k
  have i1 : i32 (bA τ k) := ⟨by omega, by omega⟩
  -- the class
  obtain ⟨π1, σ1, s1, s2, s3, s4, s5, s6, s7, s8⟩ := c_spInit (N := N) (π := π) (σ := σ) (kd := 1) (place := k)
  have z1 : ∀ (f : Nat) i, i < 56 → fl σ1 f i = fl σ f i := fun f i hi => s2.2.1 f i (by omega)
  have zx : XB σ1 τ st cl := x2.mv (RDr.rf 0 0 τ) ⟨z1 181 1 (by omega), z1 223 50 (by omega), fun j => s2.2.2 2 j (by omega)⟩ (by rw [z1 222 50 (by omega), ← hk]; exact ⟨b3, b4⟩)
  have os : ob π1 (nn π) 10 := s6.1
  obtain ⟨σ2, w1, w2, w3, w4, w5⟩ := c_word_lp (N := N) (π := π1) zx (s := nn π) (k := k) ⟨os, by omega⟩ (by rw [z1 182 1 (by omega), x4]; decide) b3 e g1 g2 g3 (min e 8) N 0 σ1 (by omega) (by omega) (fun _ _ _ _ => rfl) (fun _ _ => rfl) (by rw [z1 222 50 (by omega), ← hk]; omega) (by rw [s5.2.2.2.2.2.2.2.1]; rfl)
  rw [show ((0 : Nat) : Int) = 0 from rfl] at w5
  obtain ⟨σb, hσb⟩ : ∃ σb, σb = sf σ 222 50 (k + ((min e 8 : Nat) : Int)) := ⟨_, rfl⟩
  have xb : XFc σ σb := by rw [hσb]; exact (XFc.rf σ).at _
  have gb : fl σb 222 50 = k + ((min e 8 : Nat) : Int) := by rw [hσb, fl_sfs]
  have gf : ∀ f i, ¬ (f = 222 ∧ i = 50) → fl σb f i = fl σ f i := fun f i hx => by rw [hσb, fl_sf, if_neg hx]
  have fr2 : FRn (nn π) π σb π1 σ2 := ⟨s2.1, fun f i hi => by
    by_cases c : f = 222 ∧ i = 50
    · rw [c.1, c.2, w3, gb]
    · rw [gf f i c, w1 f i c (by omega)]; exact s2.2.1 f i hi, fun a j ha => by rw [w2, hσb, el_sf]; exact s2.2.2 a j ha⟩
  have pre : ∀ X, (if e ≤ 8 then Tx_word_86 N π1 σ2 (nn π) else some (π1, flS σ2 1 (k + 8), 0)) = X → Tx_part N rP π σ = X := by
    intro X hX
    have tw : Tx_word N π σ = X := by
      have fz : fl (zO σ (nn π) dfl) 222 50 = k := by rw [fl_zO, if_neg (by omega), hk]
      rw [Tx_word, Tx_word_3, fz, s1, Option.bind_some, grd_t (ob_nO π 10 14), Tx_word_12]
      simp only
      rw [w5]; exact hX
    rw [Tx_part, c_here x2, Option.bind_some, ← hk, c_isLetter i1, if_pos hb, Option.bind_some, grd_t (by decide), if_neg (by decide), tw]
    cases X with
    | none => rfl
    | some r => rfl
  -- the reference
  obtain ⟨n, hn0⟩ : ∃ n, n = fl τ 16 0 := ⟨_, rfl⟩
  obtain ⟨τa, hτa⟩ : ∃ τa, τa = nwN τ 20 k := ⟨_, rfl⟩
  have ra : RDr n d τ τa := by rw [hτa]; exact nwN_rd (RDr.rf _ _ τ) _ _ (by omega)
  have vv := nwN_v τ 20 k
  rw [← hn0, ← hτa] at vv
  have taf : ∀ f i, f ≠ 16 → fl τa f i = fl τ f i := fun f i y => by rw [hτa, nwN_fl _ _ _ _ _ y]
  obtain ⟨τb, u1, u2, u3, u4, u5, u6⟩ := r_word_lp (N := N) a0 (k := k) (n0 := n) (d0 := d) (x := n) (by omega) ⟨⟨by omega, by omega⟩, Int.le_refl _⟩ e mq.2.2 g2 g3 (min e 8) N 0 τa (by omega) (by omega) ra (by rw [taf 2 0 (by decide), t2]; omega) (by rw [taf 11 0 (by decide)]; exact x4') vv.2.2.1 vv.2.2.2.1
  rw [show ((0 : Nat) : Int) = 0 from rfl] at u6
  have tb41 : fl τb 41 0 = d + 1 := by rw [u2 41 0 (by decide) (by decide) (by decide), taf 41 0 (by decide), f1]
  obtain ⟨τ', hτ'⟩ : ∃ τ', τ' = sf (sf τb 46 0 n) 41 0 d := ⟨_, rfl⟩
  have rr : rdK N 12 τ d = some τ' := by
    rw [rdK]
    iterate 11 rw [if_neg (by decide)]
    rw [r_readPart, t2, rr_byteAt a0 (by exact ⟨by omega, by omega⟩), Option.bind_some, grd_t (by exact ⟨f2.1, by omega⟩)]
    simp only
    rw [f4, grd_t (by decide), if_neg (by decide), rr_isLow i1, if_pos hb, Option.bind_some, grd_t (by decide), if_neg (by decide), t2, r_node' (by omega), Option.bind_some, ← hτa, ← hn0]
    simp only
    rw [u6, r_readPart_177, r_finish', Option.bind_some, tb41, hτ', show d + 1 - 1 = d by omega]
  have rd0 : RDr n d τ τ' := by rw [hτ']; exact (u1.sf 46 _ (by omega)).sf 41 _ (by omega)
  have rl := RLp.one (N := N) f1 (by omega) x4' ⟨f3, by omega, by omega⟩ rr
  by_cases c : e ≤ 8
  · -- a word
    have l8 := lts_len τ k e
    have ok : okL (lts τ k e) := lts_ok g2
    have rwd : RWd (wd8 (lts τ k e)) (lpA τ k e) (lpB τ k e) := ⟨lts τ k e, ok, by omega, rfl, rfl, rfl⟩
    have wz := wd8_0 ok
    have wpos : 0 < wd8 (lts τ k e) ∧ wd8 (lts τ k e) < 9223372036854775808 := by
      obtain ⟨q, rfl⟩ : ∃ q, e = q + 1 := ⟨e - 1, by omega⟩
      have e1 : lts τ k (q + 1) = lts τ k q ++ [bA τ (k + q) - 96] := rfl
      have okq : okL (lts τ k q) := lts_ok (fun i x y => g2 i x (by omega))
      have z0 := wd8_0 okq
      have z := lts_lt (τ := τ) (k := k) q (fun i x y => g2 i x (by omega))
      have lt' := g2 (k + q) (by omega) (by omega)
      have pp := ppos (b := 256) (by decide) q
      have p7 : (256 : Int) ^ q ≤ 72057594037927936 := by
        rcases (show q = 0 ∨ q = 1 ∨ q = 2 ∨ q = 3 ∨ q = 4 ∨ q = 5 ∨ q = 6 ∨ q = 7 by omega) with rfl | rfl | rfl | rfl | rfl | rfl | rfl | rfl <;> decide
      rw [e1, wd8_snoc, lts_len]
      have a1 : (bA τ (k + q) - 96 + 96) * 256 ^ q ≤ 122 * 256 ^ q := Int.mul_le_mul_of_nonneg_right (by omega) (by omega)
      have a2 : 1 * 256 ^ q ≤ (bA τ (k + q) - 96 + 96) * 256 ^ q := Int.mul_le_mul_of_nonneg_right (by omega) (by omega)
      omega
    have rv : RV (wd8 (lts τ k e)) 0 0 (lpA τ k e, lpB τ k e, 0, 1) := ⟨rwd, ⟨by omega, by omega⟩, ⟨fun q => by omega, fun q => absurd q (by decide : ¬ (1 : Int) = 2)⟩, rfl, by decide, rfl, (by decide : (1 : Int) ≤ 1), (by decide : (1 : Int) ≤ 3), fun _ => rfl⟩
    have bdb : BDy Xo π σb τ D P L Kn := x8.st (TX.rf τ) (fun f i y z => xb.1 f i (by omega) (by omega)) xb.2
    have k23 : fl σb 23 D = fl σ 23 D := xb.1 23 D (by omega) (by omega)
    have ops2 : OPs π1 σ2 (nn π) (nn π) [] := by
      obtain ⟨o1, o2, o3, o4⟩ := s6
      refine ⟨o1, o2, by rw [w1 209 _ (by omega) (by omega)]; exact o3, ?_⟩
      rw [w1 210 _ (by omega) (by omega)]
      exact ⟨o4.1, o4.2.1, o4.2.2.1, o4.2.2.2.1, trivial⟩
    have fsp2 : FSp σ2 (nn π) (kcO 1) k 0 0 0 0 0 (wd8 (lts τ k e)) (-1) := by
      obtain ⟨y0, y1, y2, y3, y4, y5, y6, y7, y8⟩ := s5
      exact ⟨by rw [w1 200 _ (by omega) (by omega)]; exact y0, by rw [w1 201 _ (by omega) (by omega)]; exact y1, by rw [w1 202 _ (by omega) (by omega)]; exact y2, by rw [w1 203 _ (by omega) (by omega)]; exact y3, by rw [w1 204 _ (by omega) (by omega)]; exact y4, by rw [w1 205 _ (by omega) (by omega)]; exact y5, by rw [w1 206 _ (by omega) (by omega)]; exact y6, w4 c, by rw [w1 208 _ (by omega) (by omega)]; exact y8⟩
    have sq : SQ π1 σ2 (nn π) (1, k, lpA τ k e, lpB τ k e, 0, 0, 0, []) := Or.inr ⟨(by decide : (1 : Int) ≠ 99), mkSR ops2 (by omega) (by simp) (mkCK fsp2 (by rw [w1 212 _ (by omega) (by omega), s7.2.1]; decide) (by omega) (fun _ => rv) (fun h => absurd rfl h) (fun h => by omega) (fun h => by omega) (fun h => by omega)) fsp2.2.1 ⟨fsp2.2.2.2.2.2.2.1, Or.inl rfl⟩⟩
    obtain ⟨π2, σ3, q1, q2, q3, q4, q5, q6, q7, q8, q9⟩ := c_addNew (N := N) x1 bdb (by omega) fr2 sq (own_new ops2 ⟨by rw [w1 211 _ (by omega) (by omega)]; exact s7.1, by rw [w1 212 _ (by omega) (by omega)]; exact s7.2.1, by rw [w1 213 _ (by omega) (by omega)]; exact s7.2.2⟩)
    rw [k23] at q4 q6
    have cl1 : Tx_part N rP π σ = some (π2, σ3, P + L.length) := by
      refine pre _ ?_
      rw [if_pos c, Tx_word_86, w1 221 50 (by omega) (by omega), z1 221 50 (by omega), x7, q1, Option.bind_some, grd_t q2, Tx_word_94]
    obtain ⟨v1, v2, v3, v4⟩ := u4 c
    have fv : ∀ f i, f ≠ 46 → f ≠ 41 → f ≠ 16 → f ≠ 2 → f ≠ 11 → f ≠ 12 → fl τ' f i = fl τ f i := fun f i y1 y2 y3 y4 y5 y6 => by rw [hτ', fl_sfn _ _ _ _ y2, fl_sfn _ _ _ _ y1, u2 f i y4 y5 y6, taf f i y3]
    have ev : ∀ a, el τ' a n = el τb a n := fun a => by rw [hτ']; rfl
    refine ⟨π2, σ3, τ', _, cl1, rl, ?_⟩
    refine pt_leaf (K := 1) (a := lpA τ k e) (b := lpB τ k e) (at' := k + e) hN h hn ?_ (by rw [← hk]; exact q5) ?_ q7 (by rw [q8 222 50 (by omega), gb, mle c]) (by rw [← hk]; omega) ⟨by rw [q8 182 1 (by omega), gf 182 1 (by omega)]; exact x4, by rw [q8 184 1 (by omega), gf 184 1 (by omega)], by rw [q8 224 50 (by omega), gf 224 50 (by omega)], by rw [q8 221 50 (by omega), gf 221 50 (by omega)]; exact x7, by rw [q8 223 50 (by omega), gf 223 50 (by omega)], by rw [q8 181 1 (by omega), gf 181 1 (by omega)]⟩ (fun j => by rw [q9 j]; exact xb.2 2 j) (by rw [← hn0]; exact rd0) ?_ ⟨?_, fv 13 0 (by decide) (by decide) (by decide) (by decide) (by decide) (by decide), fv 47 0 (by decide) (by decide) (by decide) (by decide) (by decide) (by decide)⟩ ⟨by rw [hτ', fl_sfs], by rw [hτ', fl_sfn _ _ _ _ (by decide), fl_sfs, hn0], ?_⟩ (Or.inl ⟨?_, rfl, ?_, ?_⟩) ?_ (Or.inl ⟨rfl, rfl, ⟨wd8 (lts τ k e), rv⟩⟩)
    · exact ((XFt.rf (fl σ 23 D) π σ).xf xb (by omega)).tr q4
    · have cc : cpc π σb (fl σ 23 D) = cpc π σ (fl σ 23 D) := by unfold cpc; rw [gf 1 _ (by omega)]
      exact ⟨by have := q6.1; omega, by have := q6.2; omega⟩
    · rw [hτ', fl_sfn _ _ _ _ (by decide), fl_sfn _ _ _ _ (by decide)]; exact v1
    · rw [hτ', fl_sfn _ _ _ _ (by decide), fl_sfn _ _ _ _ (by decide)]; exact v2
    · rw [hτ', fl_sfn _ _ _ _ (by decide), fl_sfn _ _ _ _ (by decide), u2 16 0 (by decide) (by decide) (by decide), hτa, nwN_16]
    · rw [← hn0, ev, u3 94 n (by omega)]; exact vv.1
    · rw [← hn0, ev]; exact v3
    · rw [← hn0, ev]; exact v4
    · rw [← hn0, ev, u3 93 n (by omega), vv.2.1, hk]
  · -- too long
    obtain ⟨v1, v2⟩ := u5 (by omega)
    have c1 := pre _ rfl
    rw [if_neg c] at c1
    have m8 : k + ((min e 8 : Nat) : Int) = k + 8 := by rw [Nat.min_eq_right (by omega)]; rfl
    have h182 : fl σ2 182 1 = 0 := by rw [w1 182 1 (by omega) (by omega), z1 182 1 (by omega)]; exact x4
    have fs := flS_0 (σ := σ2) (x := 1) (y := k + 8) h182
    have f2' := flS_222 σ2 1 (k + 8)
    have xs : XFc σ2 (flS σ2 1 (k + 8)) := flS_xf (XFc.rf σ2) _ _
    have bd2 : BDy Xo π1 σ2 τ D P L Kn := (x8.st (TX.rf τ) (fun f i y z => xb.1 f i (by omega) (by omega)) xb.2).nw (Int.le_refl _) n56 fr2
    have bd3 : BDy Xo π1 (flS σ2 1 (k + 8)) τ' D P L Kn := bd2.st (TX.rd rd0) (fun f i y z => xs.1 f i (by omega) (by omega)) xs.2
    have ft : XFt (fl σ 23 D) π σ π1 (flS σ2 1 (k + 8)) := (((XFt.rf (fl σ 23 D) π σ).xf xb (by omega)).nw fr2 (Int.le_refl _) e2.2).xf xs (by omega)
    have z2 : ∀ (f : Nat) i, i < 56 → ¬ (f = 222 ∧ i = 50) → ¬ (i = 1 ∧ (f = 182 ∨ f = 183)) → ¬ (i = 50 ∧ f = 225) → fl (flS σ2 1 (k + 8)) f i = fl σ f i := fun f i hi y1 y2 y3 => by rw [xs.1 f i (by omega) y2, w1 f i y1 (by omega), z1 f i hi]
    refine ⟨_, _, τ', _, c1, rl, ft, by rw [← hn0]; exact rd0, Or.inl ⟨⟨?_, ?_, ?_⟩, ⟨L, ⟨x1.ext s2.1, x2.mv rd0 ⟨z2 181 1 (by omega) (by omega) (by omega) (by omega), z2 223 50 (by omega) (by omega) (by omega) (by omega), fun j => ?_⟩ (by rw [f2'.1, w3]; exact ⟨mq.1, mq.2.1⟩), by rw [z2 221 50 (by omega) (by omega) (by omega) (by omega)]; exact x7, bd3⟩, by omega⟩, ⟨by omega, ?_⟩⟩⟩
    · rw [fs.1, hτ', fl_sfn _ _ _ _ (by decide), fl_sfn _ _ _ _ (by decide), v1]
    · rw [fs.2, hτ', fl_sfn _ _ _ _ (by decide), fl_sfn _ _ _ _ (by decide), v2]
    · rw [hτ', fl_sfn _ _ _ _ (by decide), fl_sfn _ _ _ _ (by decide), v1]; omega
    · rw [xs.2, w2]; exact s2.2.2 2 j (by omega)
    · have cp : cpc π1 (flS σ2 1 (k + 8)) (fl σ 23 D) = cpc π σ (fl σ 23 D) := by
        have q1 : fl (flS σ2 1 (k + 8)) 1 (fl σ 23 D) = fl σ 1 (fl σ 23 D) := by rw [xs.1 1 _ (by omega) (by omega), w1 1 _ (by omega) (by omega)]; exact s2.2.1 1 _ e2.2
        unfold cpc
        rw [q1]
        by_cases c' : fl σ 1 (fl σ 23 D) < 0
        · rw [if_pos c', if_pos c']
        · rw [if_neg c', if_neg c', (s2.1.2.2 _ e4).2]
      rw [cp, s4]; omega
end PW
