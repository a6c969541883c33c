/-! feed -/
theorem bv_low (X : BitVec 32) (k : Nat) (hk : k ≤ 24) : (X >>> k).signExtend 8 = (X.sshiftRight k).signExtend 8 := by
  rw [BitVec.signExtend_eq_setWidth_of_le _ (by omega), BitVec.signExtend_eq_setWidth_of_le _ (by omega)]
  apply BitVec.eq_of_getLsbD_eq
  intro i hi
  simp only [BitVec.getLsbD_setWidth, BitVec.getLsbD_ushiftRight, BitVec.getLsbD_sshiftRight, hi, decide_true, Bool.true_and]
  have h1 : k + i < 32 := by omega
  have h2 : ¬ 32 ≤ i := by omega
  simp [h1, h2]
theorem b8_0 (x : Int) : b8 (iushr x 0) = b8 (ishr x 0) := by
  unfold b8 iushr ishr
  rw [Int32.ofInt_toInt, Int32.ofInt_toInt, show ((Int32.ofInt 0).toUInt32 &&& Int32.toUInt32 31) = 0 by decide, show (Int32.ofInt 0 &&& 31) = 0 by decide]
  refine congrArg (fun y : Int8 => y.toInt32.toInt) (Int8.toBitVec_inj.mp ?_)
  have h := bv_low (Int32.ofInt x).toBitVec 0 (by omega)
  have e1 : ((Int32.ofInt x).toUInt32 >>> (0 : UInt32)).toInt32.toInt8.toBitVec = ((Int32.ofInt x).toBitVec >>> (0 : Nat)).signExtend 8 := by
    rw [Int32.toBitVec_toInt8]
    rfl
  have e2 : (Int32.ofInt x >>> (0 : Int32)).toInt8.toBitVec = ((Int32.ofInt x).toBitVec.sshiftRight 0).signExtend 8 := by
    rw [Int32.toBitVec_toInt8]
    rfl
  rw [e1, e2, h]
theorem b8_8 (x : Int) : b8 (iushr x 8) = b8 (ishr x 8) := by
  unfold b8 iushr ishr
  rw [Int32.ofInt_toInt, Int32.ofInt_toInt, show ((Int32.ofInt 8).toUInt32 &&& Int32.toUInt32 31) = 8 by decide, show (Int32.ofInt 8 &&& 31) = 8 by decide]
  refine congrArg (fun y : Int8 => y.toInt32.toInt) (Int8.toBitVec_inj.mp ?_)
  have h := bv_low (Int32.ofInt x).toBitVec 8 (by omega)
  have e1 : ((Int32.ofInt x).toUInt32 >>> (8 : UInt32)).toInt32.toInt8.toBitVec = ((Int32.ofInt x).toBitVec >>> (8 : Nat)).signExtend 8 := by
    rw [Int32.toBitVec_toInt8]
    rfl
  have e2 : (Int32.ofInt x >>> (8 : Int32)).toInt8.toBitVec = ((Int32.ofInt x).toBitVec.sshiftRight 8).signExtend 8 := by
    rw [Int32.toBitVec_toInt8]
    rfl
  rw [e1, e2, h]
theorem b8_16 (x : Int) : b8 (iushr x 16) = b8 (ishr x 16) := by
  unfold b8 iushr ishr
  rw [Int32.ofInt_toInt, Int32.ofInt_toInt, show ((Int32.ofInt 16).toUInt32 &&& Int32.toUInt32 31) = 16 by decide, show (Int32.ofInt 16 &&& 31) = 16 by decide]
  refine congrArg (fun y : Int8 => y.toInt32.toInt) (Int8.toBitVec_inj.mp ?_)
  have h := bv_low (Int32.ofInt x).toBitVec 16 (by omega)
  have e1 : ((Int32.ofInt x).toUInt32 >>> (16 : UInt32)).toInt32.toInt8.toBitVec = ((Int32.ofInt x).toBitVec >>> (16 : Nat)).signExtend 8 := by
    rw [Int32.toBitVec_toInt8]
    rfl
  have e2 : (Int32.ofInt x >>> (16 : Int32)).toInt8.toBitVec = ((Int32.ofInt x).toBitVec.sshiftRight 16).signExtend 8 := by
    rw [Int32.toBitVec_toInt8]
    rfl
  rw [e1, e2, h]
theorem b8_24 (x : Int) : b8 (iushr x 24) = b8 (ishr x 24) := by
  unfold b8 iushr ishr
  rw [Int32.ofInt_toInt, Int32.ofInt_toInt, show ((Int32.ofInt 24).toUInt32 &&& Int32.toUInt32 31) = 24 by decide, show (Int32.ofInt 24 &&& 31) = 24 by decide]
  refine congrArg (fun y : Int8 => y.toInt32.toInt) (Int8.toBitVec_inj.mp ?_)
  have h := bv_low (Int32.ofInt x).toBitVec 24 (by omega)
  have e1 : ((Int32.ofInt x).toUInt32 >>> (24 : UInt32)).toInt32.toInt8.toBitVec = ((Int32.ofInt x).toBitVec >>> (24 : Nat)).signExtend 8 := by
    rw [Int32.toBitVec_toInt8]
    rfl
  have e2 : (Int32.ofInt x >>> (24 : Int32)).toInt8.toBitVec = ((Int32.ofInt x).toBitVec.sshiftRight 24).signExtend 8 := by
    rw [Int32.toBitVec_toInt8]
    rfl
  rw [e1, e2, h]
theorem b8_rg (x : Int) : -128 ≤ b8 x ∧ b8 x < 128 := by
  unfold b8
  rw [Int8.toInt_toInt32]
  have h1 := Int8.le_toInt (Int32.ofInt x).toInt8
  have h2 := Int8.toInt_lt (Int32.ofInt x).toInt8
  omega
theorem app_lp {N : Nat} {π : Sh} {x : Int} : ∀ (m n : Nat) (σ : St) (x2 s : Int), m < n → m ≤ 4 → x2 = 8 * (m : Int) - 8 → fl σ 181 1 = s → 0 ≤ s → s + m ≤ 2000 → ∃ σ', Sc_append_3 N π n σ x x2 = some σ' ∧ fl σ' 181 1 = s + m ∧ (∀ f i, f ≠ 181 → fl σ' f i = fl σ f i) ∧ (∀ a j, ¬ (a = 2 ∧ s ≤ j ∧ j < s + m) → el σ' a j = el σ a j) ∧ ∀ j, s ≤ j → j < s + m → el σ' 2 j = b8 (iushr x (x2 - 8 * (j - s)))
  | 0, 0, _, _, _, h, _, _, _, _, _ => absurd h (by omega)
  | 0, n + 1, σ, x2, s, _, _, hx, hs, h0, h1 => by
    refine ⟨σ, ?_, by omega, fun _ _ _ => rfl, fun _ _ _ => rfl, fun j a b => by omega⟩
    rw [Sc_append_3, grd_t (by exact ⟨by omega, by omega⟩), if_pos (by omega)]
  | m + 1, 0, _, _, _, h, _, _, _, _, _ => absurd h (by omega)
  | m + 1, n + 1, σ, x2, s, hm, h4, hx, hs, h0, h1 => by
    obtain ⟨σ', e, f1, f2, f3, f4⟩ := app_lp m n (sf (se σ 2 s (b8 (iushr x x2))) 181 1 (s + 1)) (x2 + (-8)) (s + 1) (by omega) (by omega) (by omega) (fl_sfs _ _ _ _) (by omega) (by omega)
    refine ⟨σ', ?_, by omega, fun f i hf => ?_, fun a j hn => ?_, fun j a b => ?_⟩
    · rw [Sc_append_3, grd_t (by exact ⟨by omega, by omega⟩), if_neg (by omega), hs, grd_t (by exact ⟨by omega, by omega⟩), if_pos (by omega), grd_t (by exact ⟨by omega, by omega⟩)]
      exact e
    · rw [f2 f i hf, fl_sfn _ _ _ _ hf, fl_se]
    · rw [f3 a j (by omega), el_sf, el_se, if_neg (by omega)]
    · by_cases d : j = s
      · subst d
        rw [f3 2 j (by omega), el_sf, el_ses]
        congr 2
        omega
      · rw [f4 j (by omega) (by omega)]
        congr 2
        omega
def fsel (x1 x2 x3 x4 x5 q : Int) : Int := if q < 4 then x1 else if q < 8 then x2 else if q < 12 then x3 else if q < 16 then x4 else x5
theorem rfe_lp {N : Nat} {x1 x2 x3 x4 x5 : Int} : ∀ (m n : Nat) (τ : St) (x6 s : Int), m < n → x6 + m = 20 → 0 ≤ x6 → fl τ 1 0 = s → 0 ≤ s → s ≤ 1980 → ∃ τ', r_feed_15 N n τ x1 x2 x3 x4 x5 x6 = some (τ', 1) ∧ fl τ' 1 0 = s + 20 ∧ (∀ f i, f ≠ 1 → fl τ' f i = fl τ f i) ∧ (∀ a j, ¬ (a = 97 ∧ s + x6 ≤ j ∧ j < s + 20) → el τ' a j = el τ a j) ∧ ∀ j, s + x6 ≤ j → j < s + 20 → el τ' 97 j = b8 (ishr (fsel x1 x2 x3 x4 x5 (j - s)) (24 - 8 * ((j - s) % 4)))
  | 0, 0, _, _, _, h, _, _, _, _, _ => absurd h (by omega)
  | 0, n + 1, τ, x6, s, _, hx, h0, hs, s0, s1 => by
    refine ⟨sf τ 1 0 (fl τ 1 0 + 20), ?_, by rw [fl_sfs, hs], fun _ _ hf => fl_sfn _ _ _ _ hf, fun _ _ _ => rfl, fun j a b => by omega⟩
    rw [r_feed_15, grd_t (by exact ⟨by omega, by omega⟩), if_neg (by omega)]
  | m + 1, 0, _, _, _, h, _, _, _, _, _ => absurd h (by omega)
  | m + 1, n + 1, τ, x6, s, hm, hx, h0, hs, s0, s1 => by
    obtain ⟨τ', e, f1, f2, f3, f4⟩ := rfe_lp (N := N) (x1 := x1) (x2 := x2) (x3 := x3) (x4 := x4) (x5 := x5) m n (se τ 97 (s + x6) (b8 (ishr (fsel x1 x2 x3 x4 x5 x6) (24 - 8 * (Int.tmod x6 4))))) (x6 + 1) s (by omega) (by omega) (by omega) hs (by omega) (by omega)
    have e2 : r_feed_68 N (r_feed_15 N n) τ x1 x2 x3 x4 x5 x6 (fsel x1 x2 x3 x4 x5 x6) = some (τ', 1) := by
      rw [r_feed_68, grd_t (by exact ⟨by omega, by omega⟩), hs, grd_t (by exact ⟨by omega, by omega⟩)]
      exact e
    refine ⟨τ', ?_, by omega, fun f i hf => ?_, fun a j hn => ?_, fun j a b => ?_⟩
    · rw [r_feed_15, grd_t (by exact ⟨by omega, by omega⟩), if_pos (by omega), ← e2]
      unfold fsel
      split
      · rfl
      split
      · rfl
      split
      · rfl
      split <;> rfl
    · rw [f2 f i hf, fl_se]
    · rw [f3 a j (by omega), el_se, if_neg (by omega)]
    · by_cases d : j = s + x6
      · subst d
        rw [f3 97 (s + x6) (by omega), el_ses, Int.tmod_eq_emod_of_nonneg h0]
        have : s + x6 - s = x6 := by omega
        rw [this]
      · exact f4 j (by omega) (by omega)
section SF
variable {PR : PRt} {DR : DRt} {RW : Int → Int → Int → Prop} {N n : Nat}
theorem st_feed (hN : 64 ≤ N) (hI : Inn PR DR) (hn : n < 512) : St_feed N (RO PR DR RW n) (RO PR DR RW (n + 1)) := by
  intro π σ τ x1 x2 x3 x4 x5 h i1 i2 i3 i4 i5
  have hu := h.up hI hn
  obtain ⟨h1, h2, h3, h4, h5, h6, h7, h8⟩ := id h
  obtain ⟨t1, t2, t3, t4⟩ := id h2
  by_cases c : 1980 < fl τ 1 0
  · refine ⟨σ, τ, 0, ?_, ?_, hu⟩
    · rw [Cs_feed, t1, grd_t (by exact ⟨by omega, by omega⟩), if_pos (by omega)]
    · rw [r_feed, grd_t (by exact ⟨by omega, by omega⟩), if_pos c]
  obtain ⟨τ', e0, r1, r2, r3, r4⟩ := rfe_lp (N := N) (x1 := x1) (x2 := x2) (x3 := x3) (x4 := x4) (x5 := x5) 20 N τ 0 (fl τ 1 0) (by omega) (by omega) (by omega) rfl t2 (by omega)
  obtain ⟨σ1, e1, a1, b1, c1, d1⟩ := app_lp (N := N) (π := π) (x := x1) 4 N σ 24 (fl τ 1 0) (by omega) (by omega) (by omega) t1 t2 (by omega)
  obtain ⟨σ2, e2, a2, b2, c2, d2⟩ := app_lp (N := N) (π := π) (x := x2) 4 N σ1 24 _ (by omega) (by omega) (by omega) a1 (by omega) (by omega)
  obtain ⟨σ3, e3, a3, b3, c3, d3⟩ := app_lp (N := N) (π := π) (x := x3) 4 N σ2 24 _ (by omega) (by omega) (by omega) a2 (by omega) (by omega)
  obtain ⟨σ4, e4, a4, b4, c4, d4⟩ := app_lp (N := N) (π := π) (x := x4) 4 N σ3 24 _ (by omega) (by omega) (by omega) a3 (by omega) (by omega)
  obtain ⟨σ5, e5, a5, b5, c5, d5⟩ := app_lp (N := N) (π := π) (x := x5) 4 N σ4 24 _ (by omega) (by omega) (by omega) a4 (by omega) (by omega)
  have k1 : Cs_feed N π σ x1 x2 x3 x4 x5 = some (σ5, 1) := by
    rw [Cs_feed, t1, grd_t (by exact ⟨by omega, by omega⟩), if_neg (by omega), Sc_append, e1]
    show Option.bind (Sc_append N π σ1 x2) _ = _
    rw [Sc_append, e2]
    show Option.bind (Sc_append N π σ2 x3) _ = _
    rw [Sc_append, e3]
    show Option.bind (Sc_append N π σ3 x4) _ = _
    rw [Sc_append, e4]
    show Option.bind (Sc_append N π σ4 x5) _ = _
    rw [Sc_append, e5]
    rfl
  have k2 : r_feed N τ x1 x2 x3 x4 x5 = some (τ', 1) := by
    rw [r_feed, grd_t (by exact ⟨by omega, by omega⟩), if_neg c, e0]
  have fF : ∀ f i, f ≠ 181 → fl σ5 f i = fl σ f i := fun f i hf => by rw [b5 f i hf, b4 f i hf, b3 f i hf, b2 f i hf, b1 f i hf]
  have fE : ∀ a j, a ≠ 2 → el σ5 a j = el σ a j := fun a j ha => by rw [c5 a j (by omega), c4 a j (by omega), c3 a j (by omega), c2 a j (by omega), c1 a j (by omega)]
  have rE : ∀ a j, a ≠ 97 → el τ' a j = el τ a j := fun a j ha => r3 a j (by omega)
  refine ⟨σ5, τ', 1, k1, k2, ?_⟩
  refine h.mk hI hn (km_Cs_feed h1 k1) ⟨fun f i hf => fF f i (by unfold inF at hf; omega), fun a j ha => fE a j (by omega)⟩ ⟨fun f hf => r2 f 0 (by unfold inR at hf; omega), fun a j ha => rE a j (by unfold inA at ha; omega)⟩ ?_ ?_ ?_ ?_ (r2 _ _ (by decide)) ?_ ?_ (by omega)
  · refine ⟨by omega, by omega, by omega, fun j j0 j1 => ?_⟩
    rw [r1] at j1
    by_cases q0 : j < fl τ 1 0
    · rw [c5 2 j (by omega), c4 2 j (by omega), c3 2 j (by omega), c2 2 j (by omega), c1 2 j (by omega), r3 97 j (by omega)]
      exact t4 j j0 q0
    rw [r4 j (by omega) (by omega)]
    refine ⟨?_, b8_rg _⟩
    have key : ∀ (k : Int) (y : Int), 0 ≤ k → k < 4 → b8 (iushr y (24 - 8 * k)) = b8 (ishr y (24 - 8 * k)) := fun k y p q => by
      rcases (show k = 0 ∨ k = 1 ∨ k = 2 ∨ k = 3 by omega) with rfl | rfl | rfl | rfl
      · exact b8_24 y
      · exact b8_16 y
      · exact b8_8 y
      · exact b8_0 y
    by_cases q1 : j < fl τ 1 0 + 4
    · rw [c5 2 j (by omega), c4 2 j (by omega), c3 2 j (by omega), c2 2 j (by omega), d1 j (by omega) (by omega), key _ _ (by omega) (by omega)]
      have u1 : fsel x1 x2 x3 x4 x5 (j - fl τ 1 0) = x1 := by unfold fsel; rw [if_pos (by omega)]
      have u2 : (j - fl τ 1 0) % 4 = j - fl τ 1 0 := by omega
      rw [u1, u2]
    by_cases q2 : j < fl τ 1 0 + 8
    · rw [c5 2 j (by omega), c4 2 j (by omega), c3 2 j (by omega), d2 j (by omega) (by omega), key _ _ (by omega) (by omega)]
      have u1 : fsel x1 x2 x3 x4 x5 (j - fl τ 1 0) = x2 := by unfold fsel; rw [if_neg (by omega), if_pos (by omega)]
      rw [u1]
      congr 2
      omega
    by_cases q3 : j < fl τ 1 0 + 12
    · rw [c5 2 j (by omega), c4 2 j (by omega), d3 j (by omega) (by omega), key _ _ (by omega) (by omega)]
      have u1 : fsel x1 x2 x3 x4 x5 (j - fl τ 1 0) = x3 := by unfold fsel; rw [if_neg (by omega), if_neg (by omega), if_pos (by omega)]
      rw [u1]
      congr 2
      omega
    by_cases q4 : j < fl τ 1 0 + 16
    · rw [c5 2 j (by omega), d4 j (by omega) (by omega), key _ _ (by omega) (by omega)]
      have u1 : fsel x1 x2 x3 x4 x5 (j - fl τ 1 0) = x4 := by unfold fsel; rw [if_neg (by omega), if_neg (by omega), if_neg (by omega), if_pos (by omega)]
      rw [u1]
      congr 2
      omega
    · rw [d5 j (by omega) (by omega), key _ _ (by omega) (by omega)]
      have u1 : fsel x1 x2 x3 x4 x5 (j - fl τ 1 0) = x5 := by unfold fsel; rw [if_neg (by omega), if_neg (by omega), if_neg (by omega), if_neg (by omega)]
      rw [u1]
      congr 2
      omega
  · have := h3.up
    unfold RTm KY at this ⊢
    rw [fF 52 10 (by decide), fF 53 10 (by decide), fF 253 0 (by decide), fF 254 0 (by decide), fF 161 9 (by decide), fF 255 0 (by decide), fF 256 0 (by decide), fF 257 0 (by decide), fF 258 0 (by decide), r2 115 0 (by decide), r2 116 0 (by decide), r2 117 0 (by decide), r2 95 0 (by decide), r2 118 0 (by decide), r2 119 0 (by decide), r2 120 0 (by decide)]
    exact this
  · exact h4.stl (fun j => fE 54 j (by decide)) (fun j => fE 55 j (by decide)) (fun j => rE 26 j (by decide)) (fun j => rE 25 j (by decide))
  · exact fun t _ _ => ⟨fE 51 t (by decide), fE 52 t (by decide), fE 53 t (by decide), rE 27 t (by decide), rE 28 t (by decide)⟩
  · exact h6.stl (fF _ _ (by decide)) (r2 _ _ (by decide)) (r2 _ _ (by decide)) (fun a j _ _ => fE a j (by omega)) (fun a j _ _ => rE a j (by omega))
  · exact h7.stl (fF _ _ (by decide)) (r2 _ _ (by decide)) (fun a j _ _ => fE a j (by omega)) (fun a j _ _ => rE a j (by omega))
end SF
