/-! a pattern is made: the reference -/
/-- the fault that bounds are -/
def xs (G C R W D : Int) : Int := if 1000000 < G then 6 else if 400 < C then 7 else if 64 < R then 8 else if 50000 < W then 9 else if 60 < D then 10 else 0
def xsB (B : Int × Int × Int × Int) (D : Int) : Int := xs B.1 B.2.1 B.2.2.1 B.2.2.2 D
def spt (τ : St) (place : Int) : Int := if 0 < fl τ 70 0 then fl τ 71 0 else place
/-- what making leaves alone -/
def MK0 (τ τ' : St) : Prop := (∀ f i, f ≠ 11 → f ≠ 12 → f ≠ 48 → f ≠ 64 → f ≠ 68 → f < 73 ∨ 83 < f → fl τ' f i = fl τ f i)
section MD
variable {N : Nat}
theorem r_spot' {τ : St} {x : Int} (h : i32 (fl τ 70 0)) : r_spot N τ x = some (τ, spt τ x) := by
  rw [r_spot, grd_t h, spt]
  by_cases c : 0 < fl τ 70 0
  · rw [if_pos c, if_pos c]
  · rw [if_neg c, if_neg c]
theorem r_fail0 {τ : St} {x y : Int} (h : fl τ 11 0 = 0) : r_fail N τ x y = some (sf (sf τ 11 0 x) 12 0 y) := by
  rw [r_fail, h, grd_t (by decide), if_pos rfl]
theorem bds_nn {τ : St} {K a b c d : Int} {l : List Kid} (hv : IV K a b c d l) (kok : ∀ k ∈ l, KOK τ k) (hl : l.length ≤ 2000) : (1 ≤ (bds τ K a b c d l).1) ∧ (0 ≤ (bds τ K a b c d l).2.1 ∧ (bds τ K a b c d l).2.1 ≤ 1000000000) ∧ (1 ≤ (bds τ K a b c d l).2.2.1 ∧ (bds τ K a b c d l).2.2.1 ≤ 1000000000) ∧ (1 ≤ (bds τ K a b c d l).2.2.2 ∧ (bds τ K a b c d l).2.2.2 ≤ 4000000000) ∧ (bds τ K a b c d l).2.1 ≤ (bds τ K a b c d l).2.2.2 := by
  have gpos : ∀ k ∈ l, 1 ≤ gr τ k.1 := fun k hk => (kok k hk).1.1.1
  have lc1 := (lcK_dvd (τ := τ) l 1 (Int.le_refl _) gpos).2.1
  have ws := wS_b (l := l) (fun k hk => ⟨(kok k hk).2.2.1, (kok k hk).2.2.2⟩)
  have sums : ∀ (m : List Kid), (∀ k ∈ m, KOK τ k) → 0 ≤ crS τ m ∧ crS τ m ≤ 6400 * m.length ∧ crS τ m ≤ wkS τ m ∧ 0 ≤ wkS τ m ∧ wkS τ m ≤ 800000 * m.length := by
    intro m
    induction m with
    | nil => intro _; exact ⟨Int.le_refl _, Int.le_refl _, Int.le_refl _, Int.le_refl _, Int.le_refl _⟩
    | cons k m ih =>
      intro hm
      obtain ⟨i1, i2, i3, i4, i5⟩ := ih (fun x hx => hm x (by simp [hx]))
      obtain ⟨⟨-, ⟨c1, c2⟩, -, ⟨w1, w2⟩, cwk⟩, -, -, ⟨o1, o2⟩⟩ := hm k (by simp)
      have a1 : 0 ≤ k.2.2 * cw τ k.1 := Int.mul_nonneg (by omega) (by omega)
      have a2 : k.2.2 * cw τ k.1 ≤ 16 * 400 := Int.mul_le_mul o2 c2 (by omega) (by omega)
      have a3 : k.2.2 * cw τ k.1 ≤ k.2.2 * wk τ k.1 := Int.mul_le_mul_of_nonneg_left cwk (by omega)
      have a4 : k.2.2 * wk τ k.1 ≤ 16 * 50000 := Int.mul_le_mul o2 w2 (by omega) (by omega)
      rw [crS, wkS, List.length_cons]
      omega
  obtain ⟨s1, s2, s3, s4, s5⟩ := sums l kok
  have mC := mxK_ge (f := cw τ) l 0
  have mR := mxK_ge (f := rc τ) l 0
  have mW := mxK_ge (f := wk τ) l 0
  have mC' := mxK_le (f := cw τ) (M := 400) l 0 (by omega) (fun k hk => (kok k hk).1.2.1.2)
  have mR' := mxK_le (f := rc τ) (M := 64) l 0 (by omega) (fun k hk => (kok k hk).1.2.2.1.2)
  have mW' := mxK_le (f := wk τ) (M := 50000) l 0 (by omega) (fun k hk => (kok k hk).1.2.2.2.1.2)
  have mCW : mxK (cw τ) 0 l ≤ mxK (wk τ) 0 l := mxK_le (f := cw τ) l 0 mW.1 (fun k hk => by
    have := (kok k hk).1.2.2.2.2
    have := mW.2 k hk
    omega)
  have ne1 : l ≠ [] → 1 ≤ mxK (rc τ) 0 l ∧ 1 ≤ l.length := fun hne => by
    cases l with
    | nil => exact absurd rfl hne
    | cons k l =>
      have := mR.2 k (by simp)
      have := (kok k (by simp)).1.2.2.1.1
      exact ⟨by omega, by simp⟩
  have one : ∀ q, l = [(q, 1, 1)] → rng τ q := fun q h => (kok (q, 1, 1) (by rw [h]; simp)).1
  have two : ∀ q r, l = [(q, 1, 1), (r, 1, 1)] → rng τ q ∧ rng τ r := fun q r h => ⟨(kok (q, 1, 1) (by rw [h]; simp)).1, (kok (r, 1, 1) (by rw [h]; simp)).1⟩
  have meet : ∀ m o, rng τ m → rng τ o → (1 ≤ (meB τ m o).1) ∧ (0 ≤ (meB τ m o).2.1 ∧ (meB τ m o).2.1 ≤ 1000000000) ∧ (1 ≤ (meB τ m o).2.2.1 ∧ (meB τ m o).2.2.1 ≤ 1000000000) ∧ (1 ≤ (meB τ m o).2.2.2 ∧ (meB τ m o).2.2.2 ≤ 4000000000) ∧ (meB τ m o).2.1 ≤ (meB τ m o).2.2.2 := by
    intro m o hm ho
    obtain ⟨⟨g1, g2⟩, ⟨c1, c2⟩, ⟨r1, r2⟩, ⟨w1, w2⟩, cwk⟩ := hm
    obtain ⟨-, -, ⟨p1, p2⟩, ⟨x1, x2⟩, -⟩ := ho
    have a0 : 0 ≤ cw τ m * (rc τ o + 1) := Int.mul_nonneg c1 (by omega)
    have a1 : cw τ m * (rc τ o + 1) ≤ 400 * 65 := Int.mul_le_mul c2 (by omega) (by omega) (by omega)
    have a2 : 0 ≤ cw τ m * (rc τ o + 1) * wk τ o := Int.mul_nonneg a0 (by omega)
    have a3 : cw τ m * (rc τ o + 1) * wk τ o ≤ 26000 * 50000 := Int.mul_le_mul (by omega) x2 (by omega) (by omega)
    exact ⟨g1, ⟨c1, by show cw τ m ≤ _; omega⟩, ⟨r1, by show rc τ m ≤ _; omega⟩, ⟨by show 1 ≤ wk τ m + cw τ m * (rc τ o + 1) * wk τ o + 1; omega, by show wk τ m + cw τ m * (rc τ o + 1) * wk τ o + 1 ≤ _; omega⟩, by show cw τ m ≤ wk τ m + cw τ m * (rc τ o + 1) * wk τ o + 1; omega⟩
  unfold IV at hv
  rcases id hv with ⟨rfl, -⟩ | ⟨rfl, -⟩ | ⟨rfl, -⟩ | ⟨rfl, wl⟩ | ⟨rfl, wl, -⟩ | ⟨rfl, wl⟩ | ⟨rfl, wl, v1, v2⟩ | ⟨rfl, ⟨q, hq⟩, ⟨v1, v2⟩, ⟨v3, v4⟩, ⟨v5, v6⟩⟩ | ⟨rfl, ⟨q, hq⟩, ⟨v1, v2⟩, ⟨v3, v4⟩⟩ | ⟨hK, ⟨q, hq⟩, ⟨v1, v2⟩, ⟨v3, v4⟩, v5⟩ | ⟨rfl, ⟨q, hq⟩, v1, v2⟩ | ⟨hK, hq, -⟩ | ⟨rfl, hq, -⟩ | ⟨rfl, hq, -⟩ | ⟨hK, ⟨q, hq⟩, ⟨v1, v2⟩, v3⟩ | ⟨rfl, ⟨q, hq⟩, ⟨v1, v2⟩, v3⟩ | ⟨rfl, ⟨q, hq⟩, ⟨v1, v2⟩, ⟨v3, v4⟩, ⟨v5, v6⟩, ⟨v7, v8⟩, v9⟩ | ⟨hK, ⟨q, hq⟩, ⟨v1, v2⟩, ⟨v3, v4⟩⟩ | ⟨hK, hq⟩ | ⟨rfl, hq, -⟩
  · rw [show bds τ 1 a b c d l = (1, 1, 1, 1) from rfl]
    decide
  · rw [show bds τ 2 a b c d l = (1, 1, 1, 1) from rfl]
    decide
  · rw [show bds τ 3 a b c d l = (1, 0, 1, 1) from rfl]
    decide
  · obtain ⟨n1, n2⟩ := ne1 wl.1
    have := Int.mul_le_mul (show 1 ≤ wS l by omega) lc1 (by omega) (by omega)
    exact ⟨by show 1 ≤ wS l * lcK τ 1 l; omega, ⟨s1, by show crS τ l ≤ _; omega⟩, ⟨n1, by show mxK (rc τ) 0 l ≤ _; omega⟩, ⟨by show 1 ≤ wkS τ l + 1; omega, by show wkS τ l + 1 ≤ _; omega⟩, by show crS τ l ≤ wkS τ l + 1; omega⟩
  · obtain ⟨n1, n2⟩ := ne1 wl.1
    exact ⟨lc1, ⟨s1, by show crS τ l ≤ _; omega⟩, ⟨n1, by show mxK (rc τ) 0 l ≤ _; omega⟩, ⟨by show 1 ≤ wkS τ l + 1; omega, by show wkS τ l + 1 ≤ _; omega⟩, by show crS τ l ≤ wkS τ l + 1; omega⟩
  · obtain ⟨n1, n2⟩ := ne1 wl.1
    exact ⟨lc1, ⟨mC.1, by show mxK (cw τ) 0 l ≤ _; omega⟩, ⟨n1, by show mxK (rc τ) 0 l ≤ _; omega⟩, ⟨by show 1 ≤ mxK (wk τ) 0 l + 1; omega, by show mxK (wk τ) 0 l + 1 ≤ _; omega⟩, by show mxK (cw τ) 0 l ≤ mxK (wk τ) 0 l + 1; omega⟩
  · obtain ⟨n1, n2⟩ := ne1 wl.1
    have b1 := Int.mul_le_mul v1 lc1 (by omega) (by omega)
    have b2 : 0 ≤ a * mxK (cw τ) 0 l := Int.mul_nonneg (by omega) mC.1
    have b3 : a * mxK (cw τ) 0 l ≤ 32 * 400 := Int.mul_le_mul v2 mC' (by omega) (by omega)
    have b4 : a * mxK (cw τ) 0 l ≤ a * mxK (wk τ) 0 l := Int.mul_le_mul_of_nonneg_left mCW (by omega)
    have b5 : a * mxK (wk τ) 0 l ≤ 32 * 50000 := Int.mul_le_mul v2 mW' (by omega) (by omega)
    exact ⟨by show 1 ≤ a * lcK τ 1 l; omega, ⟨b2, by show a * mxK (cw τ) 0 l ≤ _; omega⟩, ⟨n1, by show mxK (rc τ) 0 l ≤ _; omega⟩, ⟨by show 1 ≤ a * mxK (wk τ) 0 l + 1; omega, by show a * mxK (wk τ) 0 l + 1 ≤ _; omega⟩, by show a * mxK (cw τ) 0 l ≤ a * mxK (wk τ) 0 l + 1; omega⟩
  · obtain ⟨⟨g1, g2⟩, ⟨c1, c2⟩, ⟨r1, r2⟩, ⟨w1, w2⟩, cwk⟩ := one q hq
    subst hq
    have b1 := Int.mul_le_mul v3 g1 (by omega) (by omega)
    have b2 : 0 ≤ a * cw τ q := Int.mul_nonneg (by omega) c1
    have b3 : a * cw τ q ≤ 32 * 400 := Int.mul_le_mul (by omega) c2 (by omega) (by omega)
    have b4 : a * cw τ q ≤ a * wk τ q := Int.mul_le_mul_of_nonneg_left cwk (by omega)
    have b5 : a * wk τ q ≤ 32 * 50000 := Int.mul_le_mul (by omega) w2 (by omega) (by omega)
    exact ⟨by show 1 ≤ b * gr τ q; omega, ⟨b2, by show a * cw τ q ≤ _; omega⟩, ⟨r1, by show rc τ q ≤ _; omega⟩, ⟨by show 1 ≤ a * wk τ q + 1; omega, by show a * wk τ q + 1 ≤ _; omega⟩, by show a * cw τ q ≤ a * wk τ q + 1; omega⟩
  · obtain ⟨⟨g1, g2⟩, ⟨c1, c2⟩, ⟨r1, r2⟩, ⟨w1, w2⟩, cwk⟩ := one q hq
    subst hq
    have b1 := Int.mul_le_mul v1 g1 (by omega) (by omega)
    have t1 : 1 ≤ tmF a b ∧ tmF a b ≤ 129 := by
      have q1 : 1 ≤ (a + b - 1) / b := by rw [Int.le_ediv_iff_mul_le (by omega)]; omega
      have q2 : (a + b - 1) / b ≤ a + b - 1 := Int.ediv_le_self _ (by omega)
      unfold tmF
      split <;> omega
    have b2 : 0 ≤ tmF a b * cw τ q := Int.mul_nonneg (by omega) c1
    have b3 : tmF a b * cw τ q ≤ 129 * 400 := Int.mul_le_mul (by omega) c2 (by omega) (by omega)
    have b4 : tmF a b * cw τ q ≤ tmF a b * wk τ q := Int.mul_le_mul_of_nonneg_left cwk (by omega)
    have b5 : tmF a b * wk τ q ≤ 129 * 50000 := Int.mul_le_mul (by omega) w2 (by omega) (by omega)
    have e1 := Int.mul_le_mul r1 v3 (by omega) (by omega)
    have e2 : rc τ q * b ≤ 64 * 64 := Int.mul_le_mul r2 v4 (by omega) (by omega)
    have e3 : 1 ≤ (rc τ q * b + a - 1) / a := by rw [Int.le_ediv_iff_mul_le (by omega)]; omega
    have e4 : (rc τ q * b + a - 1) / a ≤ rc τ q * b + a - 1 := Int.ediv_le_self _ (by omega)
    exact ⟨by show 1 ≤ a * gr τ q; omega, ⟨b2, by show tmF a b * cw τ q ≤ _; omega⟩, ⟨e3, by show (rc τ q * b + a - 1) / a ≤ _; omega⟩, ⟨by show 1 ≤ tmF a b * wk τ q + 1; omega, by show tmF a b * wk τ q + 1 ≤ _; omega⟩, by show tmF a b * cw τ q ≤ tmF a b * wk τ q + 1; omega⟩
  · obtain ⟨⟨g1, g2⟩, ⟨c1, c2⟩, ⟨r1, r2⟩, ⟨w1, w2⟩, cwk⟩ := one q hq
    subst hq
    have hb : bds τ K a b c d [(q, 1, 1)] = (lcI (gr τ q) b, (if b = 1 then 1 else 2) * cw τ q, rc τ q, (if b = 1 then 1 else 2) * wk τ q + 1) := by rcases hK with rfl | rfl <;> rfl
    obtain ⟨-, -, -, -, u5, -, -⟩ := lcI_b g1 v3
    rw [hb]
    refine ⟨by show 1 ≤ lcI (gr τ q) b; omega, ⟨?_, ?_⟩, ⟨r1, by show rc τ q ≤ _; omega⟩, ⟨?_, ?_⟩, ?_⟩
    all_goals (simp only; split <;> omega)
  · obtain ⟨⟨g1, g2⟩, ⟨c1, c2⟩, ⟨r1, r2⟩, ⟨w1, w2⟩, cwk⟩ := one q hq
    subst hq
    exact ⟨g1, ⟨c1, by show cw τ q ≤ _; omega⟩, ⟨by show (1 : Int) ≤ 1; decide, by show (1 : Int) ≤ 1000000000; decide⟩, ⟨by show 1 ≤ wk τ q + 1; omega, by show wk τ q + 1 ≤ _; omega⟩, by show cw τ q ≤ wk τ q + 1; omega⟩
  · obtain ⟨q, r, rfl⟩ := hq
    obtain ⟨n1, n2⟩ := ne1 (by simp)
    have hb : bds τ K a b c d [(q, 1, 1), (r, 1, 1)] = (lcK τ 1 [(q, 1, 1), (r, 1, 1)], mxK (cw τ) 0 [(q, 1, 1), (r, 1, 1)], mxK (rc τ) 0 [(q, 1, 1), (r, 1, 1)], mxK (wk τ) 0 [(q, 1, 1), (r, 1, 1)] + 1) := by rcases hK with rfl | rfl <;> rfl
    rw [hb]
    exact ⟨lc1, ⟨mC.1, by simp only; omega⟩, ⟨n1, by simp only; omega⟩, ⟨by simp only; omega, by simp only; omega⟩, by simp only; omega⟩
  · obtain ⟨q, r, rfl⟩ := hq
    obtain ⟨n1, n2⟩ := ne1 (by simp)
    exact ⟨lc1, ⟨s1, by show crS τ _ ≤ _; omega⟩, ⟨n1, by show mxK (rc τ) 0 _ ≤ _; omega⟩, ⟨by show 1 ≤ wkS τ _ + 1; omega, by show wkS τ _ + 1 ≤ _; omega⟩, by show crS τ _ ≤ wkS τ _ + 1; omega⟩
  · obtain ⟨q, r, rfl⟩ := hq
    obtain ⟨n1, n2⟩ := ne1 (by simp)
    exact ⟨lc1, ⟨s1, by show crS τ _ ≤ _; omega⟩, ⟨n1, by show mxK (rc τ) 0 _ ≤ _; omega⟩, ⟨by show 1 ≤ wkS τ _ + 1; omega, by show wkS τ _ + 1 ≤ _; omega⟩, by show crS τ _ ≤ wkS τ _ + 1; omega⟩
  · obtain ⟨⟨g1, g2⟩, ⟨c1, c2⟩, ⟨r1, r2⟩, ⟨w1, w2⟩, cwk⟩ := one q hq
    subst hq
    rcases hK with rfl | rfl
    · obtain ⟨-, -, -, -, u5, -, -⟩ := lcI_b g1 v1
      exact ⟨by show 1 ≤ lcI (gr τ q) a; omega, ⟨by show 0 ≤ 2 * cw τ q; omega, by show 2 * cw τ q ≤ _; omega⟩, ⟨r1, by show rc τ q ≤ _; omega⟩, ⟨by show 1 ≤ 2 * wk τ q + 1; omega, by show 2 * wk τ q + 1 ≤ _; omega⟩, by show 2 * cw τ q ≤ 2 * wk τ q + 1; omega⟩
    · have b1 := Int.mul_le_mul v1 g1 (by omega) (by omega)
      have b2 : 0 ≤ a * cw τ q := Int.mul_nonneg (by omega) c1
      have b3 : a * cw τ q ≤ 64 * 400 := Int.mul_le_mul (by omega) c2 (by omega) (by omega)
      have b4 : 0 ≤ a * cw τ q * (rc τ q + 1) := Int.mul_nonneg b2 (by omega)
      have b5 : a * cw τ q * (rc τ q + 1) ≤ 25600 * 65 := Int.mul_le_mul (by omega) (by omega) (by omega) (by omega)
      have b6 : (rc τ q + 1) * (wk τ q + a * cw τ q) ≤ 65 * 75600 := Int.mul_le_mul (by omega) (by omega) (by omega) (by omega)
      have b7 : a * cw τ q * (rc τ q + 1) ≤ (rc τ q + 1) * (wk τ q + a * cw τ q) := by
        rw [Int.mul_comm]
        exact Int.mul_le_mul_of_nonneg_left (by omega) (by omega)
      exact ⟨by show 1 ≤ a * gr τ q; omega, ⟨b4, by show a * cw τ q * (rc τ q + 1) ≤ _; omega⟩, ⟨r1, by show rc τ q ≤ _; omega⟩, ⟨by show 1 ≤ (rc τ q + 1) * (wk τ q + a * cw τ q) + 1; omega, by show (rc τ q + 1) * (wk τ q + a * cw τ q) + 1 ≤ _; omega⟩, by show a * cw τ q * (rc τ q + 1) ≤ (rc τ q + 1) * (wk τ q + a * cw τ q) + 1; omega⟩
  · obtain ⟨⟨g1, g2⟩, ⟨c1, c2⟩, ⟨r1, r2⟩, ⟨w1, w2⟩, cwk⟩ := one q hq
    subst hq
    exact ⟨g1, ⟨c1, by show cw τ q ≤ _; omega⟩, ⟨r1, by show rc τ q ≤ _; omega⟩, ⟨by show 1 ≤ wk τ q + cw τ q + 1; omega, by show wk τ q + cw τ q + 1 ≤ _; omega⟩, by show cw τ q ≤ wk τ q + cw τ q + 1; omega⟩
  · obtain ⟨⟨g1, g2⟩, ⟨c1, c2⟩, ⟨r1, r2⟩, ⟨w1, w2⟩, cwk⟩ := one q hq
    subst hq
    have D0 : 0 < b * d := Int.mul_pos (by omega) (by omega)
    have dD : gC (c * b - a * d) (b * d) ∣ b * d := Int.gcd_dvd_right _ _
    have g0 : 0 < gC (c * b - a * d) (b * d) := gC_pos D0
    have d1 := dv_pos dD (by omega) (by omega)
    have m0 := Int.mul_le_mul d1 g1 (by omega) (by omega)
    obtain ⟨-, -, -, -, u5, -, -⟩ := lcI_b v3 (show 1 ≤ b * d / gC (c * b - a * d) (b * d) * gr τ q by omega)
    exact ⟨by show 1 ≤ lcI b (b * d / gC (c * b - a * d) (b * d) * gr τ q); omega, ⟨c1, by show cw τ q ≤ _; omega⟩, ⟨r1, by show rc τ q ≤ _; omega⟩, ⟨by show 1 ≤ wk τ q + 1; omega, by show wk τ q + 1 ≤ _; omega⟩, by show cw τ q ≤ wk τ q + 1; omega⟩
  · obtain ⟨⟨g1, g2⟩, ⟨c1, c2⟩, ⟨r1, r2⟩, ⟨w1, w2⟩, cwk⟩ := one q hq
    subst hq
    have hb : bds τ K a b c d [(q, 1, 1)] = (gr τ q, cw τ q, rc τ q, wk τ q + 1) := by rcases hK with rfl | rfl <;> rfl
    rw [hb]
    exact ⟨g1, ⟨c1, by simp only; omega⟩, ⟨r1, by simp only; omega⟩, ⟨by simp only; omega, by simp only; omega⟩, by simp only; omega⟩
  · obtain ⟨q, r, hl2⟩ := hq
    obtain ⟨t1, t2⟩ := two q r hl2
    subst hl2
    rcases hK with rfl | rfl
    · exact meet q r t1 t2
    · exact meet r q t2 t1
  · obtain ⟨q, r, hl2⟩ := hq
    obtain ⟨t1, t2⟩ := two q r hl2
    subst hl2
    exact meet q r t1 t2
end MD
