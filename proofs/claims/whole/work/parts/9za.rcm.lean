/-! the reference counts parts and makes a pattern -/
def FR2 (q : Int) (τ τ' : St) : Prop := (∀ (f : Nat) (i : Int), f ≠ 11 → f ≠ 12 → f ≠ 48 → f ≠ 61 → f ≠ 64 → f ≠ 68 → f < 73 ∨ 83 < f → fl τ' f i = fl τ f i) ∧ (∀ a j : Int, ¬ (57 ≤ a ∧ a ≤ 70) → ¬ (a = 54 ∧ j = q) → el τ' a j = el τ a j) ∧ TX τ τ'
theorem rCM' {N : Nat} {τ : St} {bs q K a b c d place : Int} {ks : List Kid} (hN : 300000 ≤ N) (h48 : 0 ≤ fl τ 48 0 ∧ fl τ 48 0 < 103000) (h61 : 0 ≤ fl τ 61 0 ∧ (fl τ 64 0 + bs ≤ 200 → fl τ 61 0 + ks.length ≤ 210000)) (hl : ks.length ≤ 2000) (hk : ∀ k ∈ ks, KOK τ k ∧ 0 ≤ k.1 ∧ k.1 < fl τ 48 0) (hv : IV K a b c d ks) (h11 : fl τ 11 0 = 0) (h64 : 0 ≤ fl τ 64 0 ∧ fl τ 64 0 ≤ 200) (h70 : 0 ≤ fl τ 70 0 ∧ fl τ 70 0 ≤ 12) (hq : 0 ≤ q ∧ q < 20000) (hb : 0 ≤ bs ∧ bs ≤ 2000) :
    ∃ τ', rCM N τ bs q K a b c d place ks = some τ' ∧ FR2 q τ τ' ∧ ((200 ≤ fl τ 64 0 + bs ∧ fl τ' 11 0 = 5 ∧ fl τ' 12 0 = spt τ place ∧ fl τ' 64 0 = 200) ∨ (fl τ 64 0 + bs < 200 ∧ ∃ τ1, OPN τ1 (fl τ 48 0) K a b c d ks ∧ TX τ τ1 ∧ fl τ1 64 0 = fl τ 64 0 + bs ∧ fl τ1 61 0 = fl τ 61 0 + ks.length ∧ fl τ1 68 0 = q ∧ ((xsB (bds τ1 K a b c d ks) (dpt τ1 ks) ≠ 0 ∧ fl τ' 11 0 = xsB (bds τ1 K a b c d ks) (dpt τ1 ks) ∧ fl τ' 12 0 = spt τ place ∧ fl τ' 64 0 = fl τ 64 0 + bs) ∨ (xsB (bds τ1 K a b c d ks) (dpt τ1 ks) = 0 ∧ sucM τ1 τ' (fl τ 48 0) (bds τ1 K a b c d ks) (dpt τ1 ks) ∧ (∀ x j, ¬ (59 ≤ x ∧ x ≤ 63 ∧ j = fl τ 48 0) → ¬ (x = 54 ∧ j = fl τ1 68 0) → el τ' x j = el τ1 x j) ∧ fl τ' 61 0 = fl τ1 61 0)))) := by
  obtain ⟨τc, c1, c2, c3, c4⟩ := r_counts_b (N := N) (place := place) (bs := bs) 0 bs.toNat N τ 0 (by omega) (by omega) (by omega) (by omega) h70 h11 h64
  have em : ((bs.toNat : Nat) : Int) = bs := by omega
  rw [em] at c4
  have txc : TX τ τc := TX.eq (c2 48 0 (by decide) (by decide) (by decide)) (c2 61 0 (by decide) (by decide) (by decide)) (fun a j _ _ => c3 a j)
  have sp : spt τc place = spt τ place := by unfold spt; rw [c2 70 0 (by decide) (by decide) (by decide), c2 71 0 (by decide) (by decide) (by decide)]
  have un : rCM N τ bs q K a b c d place ks = if fl τc 11 0 = 0 then rMk N τc q K a b c d place ks else some τc := by rw [rCM, r_counts, c1, Option.bind_some]
  rcases c4 with ⟨d1, d2, d3, d4⟩ | ⟨d1, d2, d3, d4⟩
  · rw [un, if_pos d3]
    have e48 := c2 48 0 (by decide) (by decide) (by decide)
    have e61 := c2 61 0 (by decide) (by decide) (by decide)
    obtain ⟨τ1, m1, m2, m3, m4, m5, m6⟩ := rMk0 (N := N) (τ := τc) (q := q) (K := K) (a := a) (b := b) (c := c) (d := d) (place := place) (ks := ks) (by omega) (by rw [e61]; exact ⟨h61.1, h61.2 d1⟩) hl (fun k hk' => by
      obtain ⟨x1, x2, x3⟩ := hk k hk'
      refine ⟨?_, x2, by omega⟩
      obtain ⟨b1, b2, b3⟩ := x1
      refine ⟨?_, by rw [c3]; exact b2, b3⟩
      unfold rng gr cw rc wk at b1 ⊢
      rw [c3, c3, c3, c3]; exact b1)
    have e64 := m3 64 0 (by decide) (by decide)
    have e70 := (m3 70 0 (by decide) (by decide)).trans (c2 70 0 (by decide) (by decide) (by decide))
    rw [e48] at m2
    rw [e48, e61] at m6
    obtain ⟨τ', n1, n2, n3, n4⟩ := r_made' (N := N) (τ := τ1) (place := place) hN m2 hv (by rw [m3 11 0 (by decide) (by decide)]; exact d3) (by rw [e64, d2]; omega) (by rw [e70]; exact ⟨by omega, by omega⟩) (by rw [m4]; exact hq)
    have sp1 : spt τ1 place = spt τ place := by unfold spt; rw [e70, m3 71 0 (by decide) (by decide), c2 71 0 (by decide) (by decide) (by decide)]
    have t48 : fl τ1 48 0 = fl τ 48 0 := (m3 48 0 (by decide) (by decide)).trans e48
    have tx1 : TX τ τ1 := ⟨by omega, by rw [m5, e61]; omega, fun x j x0 x1 hj => (m6 x j (by omega) (by omega)).trans (c3 x j), fun x j hx hj => (m6 x j (by omega) (by omega)).trans (c3 x j)⟩
    have m61 : fl τ1 61 0 = fl τ 61 0 + ks.length := by rw [m5, e61]
    have k61 : fl τ' 61 0 = fl τ1 61 0 := n2 61 0 (by decide) (by decide) (by decide) (by decide) (by decide) (by decide)
    have k48 : fl τ 48 0 ≤ fl τ' 48 0 := by
      rcases n4 with n4 | n4 | n4
      · rw [n4.2.2.2.2.1]; omega
      · rw [n4.2.2.2.2.2.1]; omega
      · rw [n4.2.2.2.2.1]; omega
    have fr : FR2 q τ τ' := by
      refine ⟨fun f i a1 a2 a3 a4 a5 a6 a7 => ?_, fun x j b1 b2 => ?_, k48, by omega, fun x j x0 x1 hj => ?_, fun x j hx hj => ?_⟩
      · rw [n2 f i a1 a2 a3 a5 a6 a7, m3 f i a4 a6, c2 f i a1 a2 a5]
      · rw [n3 x j (by omega) (by rw [m4]; exact b2), m6 x j (by omega) (by omega), c3]
      · rw [n3 x j (by omega) (by omega), m6 x j (by omega) (by omega), c3]
      · rw [n3 x j (by omega) (by omega), m6 x j (by omega) (by omega), c3]
    refine ⟨τ', by rw [m1]; exact n1, fr, ?_⟩
    rw [e64, d2] at n4
    by_cases c200 : fl τ 64 0 + bs = 200
    · left
      rcases n4 with ⟨_, n4⟩ | n4 | n4
      · exact ⟨by omega, n4.1, by rw [n4.2.1, sp1], by rw [n4.2.2.1, e64, d2, c200]⟩
      · exact absurd c200 n4.1
      · exact absurd c200 n4.1
    · right
      refine ⟨by omega, τ1, m2, tx1, by rw [e64, d2], m61, m4, ?_⟩
      rcases n4 with ⟨n4, _⟩ | ⟨_, n4, n5⟩ | ⟨_, n4, n5⟩
      · exact absurd n4 c200
      · exact Or.inl ⟨n4, n5.1, by rw [n5.2.1, sp1], by rw [n5.2.2.1, e64, d2]⟩
      · exact Or.inr ⟨n4, n5, n3, k61⟩
  · rw [un, if_neg (by omega)]
    exact ⟨τc, rfl, ⟨fun f i a1 a2 a3 a4 a5 a6 a7 => c2 f i a1 a2 a5, fun a j _ _ => c3 a j, txc⟩, Or.inl ⟨by omega, d3, d4, d2⟩⟩
