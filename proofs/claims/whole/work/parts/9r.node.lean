/-! a pattern that was made is as a node of the tables is to be -/
theorem kl_of {τ : St} : ∀ (l : List Kid) (i : Int), At (KT τ) i l → kidF τ i l.length = l
  | [], _, _ => rfl
  | k :: l, i, h => by
    obtain ⟨⟨⟨k1, k2, k3, k4⟩, -, -, ⟨e1, e2⟩, ⟨o1, o2⟩⟩, kl'⟩ := h
    rw [List.length_cons, kidF, kl_of l (i + 1) kl', k1, k2]
    have a : (k.2.1 + 32 * k.2.2) % 32 = k.2.1 := by omega
    have b : (k.2.1 + 32 * k.2.2) / 32 = k.2.2 := by omega
    rw [a, b]
theorem wkS_ge {τ : St} : ∀ (l : List Kid), (∀ k ∈ l, KOK τ k) → 0 ≤ wkS τ l ∧ ∀ k ∈ l, wk τ k.1 ≤ wkS τ l
  | [], _ => ⟨Int.le_refl _, fun k h => by cases h⟩
  | k :: l, h => by
    obtain ⟨i1, i2⟩ := wkS_ge l (fun x hx => h x (by simp [hx]))
    obtain ⟨⟨-, -, -, ⟨w1, w2⟩, -⟩, -, -, ⟨o1, o2⟩⟩ := h k (by simp)
    have a1 := Int.mul_le_mul_of_nonneg_right o1 (show 0 ≤ wk τ k.1 by omega)
    rw [wkS]
    refine ⟨by omega, fun x hx => ?_⟩
    rcases List.mem_cons.1 hx with rfl | hx
    · omega
    · have := i2 x hx
      omega
theorem nk23 (τ : St) (p m o : Int) (m1 : el τ 64 p = 2) (rm : rng τ m) (ro : rng τ o) (hB : (gr τ p, cw τ p, rc τ p, wk τ p) = meB τ m o) : NK23 τ p m o := by
  have B1 := congrArg Prod.fst hB
  have B2 := congrArg (fun x : Int × Int × Int × Int => x.2.1) hB
  have B3 := congrArg (fun x : Int × Int × Int × Int => x.2.2.1) hB
  have B4 := congrArg (fun x : Int × Int × Int × Int => x.2.2.2) hB
  simp only at B1 B2 B3 B4
  obtain ⟨⟨g1, g2⟩, ⟨c1, c2⟩, ⟨r1, r2⟩, ⟨w1, w2⟩, cwk⟩ := rm
  obtain ⟨-, -, ⟨p1, p2⟩, ⟨x1, x2⟩, -⟩ := ro
  have a0 : 0 ≤ cw τ m * (rc τ o + 1) := Int.mul_nonneg c1 (by omega)
  have a2 : 0 ≤ cw τ m * (rc τ o + 1) * wk τ o := Int.mul_nonneg a0 (by omega)
  unfold NK23 sub
  rw [B1, B2, B3, B4]
  exact ⟨m1, rfl, ⟨Int.le_refl _, Int.le_refl _, by show wk τ m ≤ wk τ m + cw τ m * (rc τ o + 1) * wk τ o + 1; omega⟩, by show cw τ m * (rc τ o + 1) * wk τ o ≤ wk τ m + cw τ m * (rc τ o + 1) * wk τ o + 1; omega⟩
theorem nk15 (τ : St) (p : Int) (l : List Kid) (q r : Int) (hq : l = [(q, 1, 1), (r, 1, 1)]) (kq : kd τ p 0 = q) (kr : kd τ p 1 = r) (m1 : el τ 64 p = 2) (kok : ∀ k ∈ l, KOK τ k) (B1 : gr τ p = lcK τ 1 l) (B2 : cw τ p = crS τ l) (B3 : rc τ p = mxK (rc τ) 0 l) (B4 : wk τ p = wkS τ l + 1) (lcd : ∀ k ∈ l, gr τ k.1 ∣ lcK τ 1 l) (mR : 0 ≤ mxK (rc τ) 0 l ∧ ∀ k ∈ l, rc τ k.1 ≤ mxK (rc τ) 0 l) (wkd : ∀ k ∈ l, wk τ k.1 ≤ wkS τ l) : NK15 τ p := by
  have iq : (q, 1, 1) ∈ l := by rw [hq]; simp
  have ir : (r, 1, 1) ∈ l := by rw [hq]; simp
  have e : crS τ l = cw τ q + cw τ r := by
    rw [hq]
    show 1 * cw τ q + (1 * cw τ r + 0) = _
    omega
  have w1 := wkd _ iq
  have w2 := wkd _ ir
  unfold NK15
  rw [kq, kr, B1, B2, B3, B4, e]
  exact ⟨m1, lcd _ iq, lcd _ ir, Int.le_refl _, mR.2 _ iq, mR.2 _ ir, by simp only at w1; omega, by simp only at w2; omega⟩
theorem mk_NK {τ : St} {p K a b c d : Int} {l : List Kid} (hv : IV K a b c d l) (kok : ∀ k ∈ l, KOK τ k) (hkl : kl τ p = l) (h64 : el τ 64 p = l.length) (hl : l.length ≤ 2000) (e70 : el τ 70 p = K) (e69 : el τ 69 p = a) (e68 : el τ 68 p = b) (e67 : el τ 67 p = c) (e66 : el τ 66 p = d) (hB : (gr τ p, cw τ p, rc τ p, wk τ p) = bds τ K a b c d l) : NK τ p := by
  have gpos : ∀ k ∈ l, 1 ≤ gr τ k.1 := fun k hk => (kok k hk).1.1.1
  obtain ⟨lc0, lc1, lcd⟩ := lcK_dvd (τ := τ) l 1 (Int.le_refl _) gpos
  have ws := wS_b (l := l) (fun k hk => ⟨(kok k hk).2.2.1, (kok k hk).2.2.2⟩)
  obtain ⟨wk0, wkd⟩ := wkS_ge l kok
  have mC := mxK_ge (f := cw τ) l 0
  have mR := mxK_ge (f := rc τ) l 0
  have mW := mxK_ge (f := wk τ) l 0
  have kd0 : ∀ q rest, l = (q, 1, 1) :: rest → kd τ p 0 = q := fun q rest hq => by
    have h : (kl τ p).length = l.length := by rw [hkl]
    unfold kl at hkl
    rw [h64, hq] at hkl
    simp only [List.length_cons] at hkl
    rw [show ((rest.length + 1 : Nat) : Int).toNat = rest.length + 1 by omega, kidF] at hkl
    have := congrArg (fun l : List Kid => (l.headD (0, 0, 0)).1) hkl
    show el τ 58 (el τ 65 p + 0) = q
    rw [Int.add_zero]
    exact this
  have kd1 : ∀ q r, l = [(q, 1, 1), (r, 1, 1)] → kd τ p 1 = r := fun q r hq => by
    unfold kl at hkl
    rw [h64, hq] at hkl
    simp only [List.length_cons, List.length_nil] at hkl
    rw [show ((0 + 1 + 1 : Nat) : Int).toNat = 2 by decide, kidF, kidF, kidF] at hkl
    have := congrArg (fun l : List Kid => ((l.drop 1).headD (0, 0, 0)).1) hkl
    exact this
  have B1 := congrArg Prod.fst hB
  have B2 := congrArg (fun x : Int × Int × Int × Int => x.2.1) hB
  have B3 := congrArg (fun x : Int × Int × Int × Int => x.2.2.1) hB
  have B4 := congrArg (fun x : Int × Int × Int × Int => x.2.2.2) hB
  simp only at B1 B2 B3 B4
  have one : ∀ q, l = [(q, 1, 1)] → rng τ q ∧ kd τ p 0 = q ∧ el τ 64 p = 1 := fun q h => ⟨(kok (q, 1, 1) (by rw [h]; simp)).1, kd0 q [] h, by rw [h64, h]; rfl⟩
  have two : ∀ q r, l = [(q, 1, 1), (r, 1, 1)] → rng τ q ∧ rng τ r ∧ kd τ p 0 = q ∧ kd τ p 1 = r ∧ el τ 64 p = 2 := fun q r h => ⟨(kok (q, 1, 1) (by rw [h]; simp)).1, (kok (r, 1, 1) (by rw [h]; simp)).1, kd0 q _ h, kd1 q r h, by rw [h64, h]; rfl⟩
  have kw : ∀ k ∈ l, (1 ≤ k.2.1 ∧ k.2.1 ≤ 31) ∧ (1 ≤ k.2.2 ∧ k.2.2 ≤ 1000) := fun k hk => by
    obtain ⟨-, -, ⟨e1, e2⟩, ⟨o1, o2⟩⟩ := kok k hk
    exact ⟨⟨e1, by omega⟩, ⟨o1, by omega⟩⟩
  have len1 : l ≠ [] → 1 ≤ el τ 64 p := fun hne => by
    cases l with
    | nil => exact absurd rfl hne
    | cons _ _ => rw [h64]; simp only [List.length_cons]; omega
  unfold IV at hv
  unfold NK
  rw [e70]
  rcases id hv with ⟨rfl, -, v1⟩ | ⟨rfl, -, v1⟩ | ⟨rfl, -⟩ | ⟨rfl, wl⟩ | ⟨rfl, wl, w1⟩ | ⟨rfl, wl⟩ | ⟨rfl, wl, v1, v2⟩ | ⟨rfl, ⟨q, hq⟩, ⟨v1, v2⟩, ⟨v3, v4⟩, ⟨v5, v6⟩⟩ | ⟨rfl, ⟨q, hq⟩, ⟨v1, v2⟩, ⟨v3, v4⟩⟩ | ⟨hK, ⟨q, hq⟩, ⟨v1, v2⟩, ⟨v3, v4⟩, v5⟩ | ⟨rfl, ⟨q, hq⟩, v1, v2⟩ | ⟨hK, ⟨q, r, hq⟩, ⟨v1, v2⟩, ⟨v3, v4⟩⟩ | ⟨rfl, ⟨q, r, hq⟩, ⟨v1, v2⟩⟩ | ⟨rfl, ⟨q, r, hq⟩, v1, v2, v3, v4⟩ | ⟨hK, ⟨q, hq⟩, ⟨v1, v2⟩, v3⟩ | ⟨rfl, ⟨q, hq⟩, ⟨v1, v2⟩, v3⟩ | ⟨rfl, ⟨q, hq⟩, ⟨v1, v2⟩, ⟨v3, v4⟩, ⟨v5, v6⟩, ⟨v7, v8⟩, v9⟩ | ⟨hK, ⟨q, hq⟩, ⟨v1, v2⟩, ⟨v3, v4⟩⟩ | ⟨hK, ⟨q, r, hq⟩⟩ | ⟨rfl, ⟨q, r, hq⟩, v1⟩
  · exact Or.inl ⟨rfl, B1, by rw [B2]; show (1 : Int) ≤ 1; decide, by rw [e69, e68]; exact v1⟩
  · exact Or.inr (Or.inl ⟨rfl, B1, by rw [B2]; show (1 : Int) ≤ 1; decide, by rw [e69]; exact v1⟩)
  · exact Or.inr (Or.inr (Or.inl rfl))
  · refine Or.inr (Or.inr (Or.inr (Or.inl ⟨rfl, len1 wl.1, lcK τ 1 l, by rw [hkl]; exact B1, ?_, fun k hk => ?_⟩)))
    · rw [hkl, B2]; exact Int.le_refl _
    · rw [hkl] at hk
      refine ⟨(kw k hk).1, (kw k hk).2, lcd k hk, ?_, ?_⟩
      · rw [B3]; exact mR.2 k hk
      · rw [B4]
        have := wkd k hk
        show wk τ k.1 ≤ wkS τ l + 1
        omega
  · refine Or.inr (Or.inr (Or.inr (Or.inr (Or.inl ⟨rfl, ?_, fun k hk => ?_⟩))))
    · rw [hkl, B2]; exact Int.le_refl _
    · rw [hkl] at hk
      refine ⟨by rw [w1 k hk], ?_, ?_, ?_⟩
      · rw [B1]; exact lcd k hk
      · rw [B3]; exact mR.2 k hk
      · rw [B4]
        have := wkd k hk
        show wk τ k.1 ≤ wkS τ l + 1
        omega
  · refine Or.inr (Or.inr (Or.inr (Or.inr (Or.inr (Or.inl ⟨rfl, len1 wl.1, by rw [hkl]; omega, fun k hk => ?_⟩)))))
    rw [hkl] at hk
    refine ⟨(kw k hk).1, (kw k hk).2, ?_, ?_, ?_, ?_⟩
    · rw [B1]; exact lcd k hk
    · rw [B2]; exact mC.2 k hk
    · rw [B3]; exact mR.2 k hk
    · rw [B4]
      have := mW.2 k hk
      show wk τ k.1 ≤ mxK (wk τ) 0 l + 1
      omega
  · refine Or.inr (Or.inr (Or.inr (Or.inr (Or.inr (Or.inr (Or.inl ⟨rfl, len1 wl.1, by rw [hkl]; omega, by rw [e69]; exact ⟨v1, v2⟩, lcK τ 1 l, by rw [e69]; exact B1, fun k hk => ?_⟩))))))
    rw [hkl] at hk
    rw [e69]
    refine ⟨(kw k hk).1, (kw k hk).2, lcd k hk, ?_, ?_, ?_⟩
    · rw [B2]; exact Int.mul_le_mul_of_nonneg_left (mC.2 k hk) (by omega)
    · rw [B3]; exact mR.2 k hk
    · rw [B4]
      have := Int.mul_le_mul_of_nonneg_left (mW.2 k hk) (show 0 ≤ a by omega)
      show a * wk τ k.1 ≤ a * mxK (wk τ) 0 l + 1
      omega
  · obtain ⟨⟨⟨g1, g2⟩, ⟨c1, c2⟩, ⟨r1, r2⟩, ⟨w1, w2⟩, cwk⟩, kq, m1⟩ := one q hq
    subst hq
    have b0 : a = 0 → a * cw τ q = 0 := fun h => by rw [h, Int.zero_mul]
    have b1 : 1 ≤ a → wk τ q ≤ a * wk τ q + 1 := fun h => by
      have := Int.mul_le_mul_of_nonneg_right h (show 0 ≤ wk τ q by omega)
      omega
    refine Or.inr (Or.inr (Or.inr (Or.inr (Or.inr (Or.inr (Or.inr (Or.inl ⟨rfl, m1, ?_⟩)))))))
    rw [kq, e69, e68, e67, B1, B2, B3, B4]
    exact ⟨⟨v1, v2⟩, ⟨v3, v4⟩, ⟨v5, v6⟩, rfl, Int.le_refl _, Int.le_refl _, b0, b1⟩
  · obtain ⟨⟨⟨g1, g2⟩, ⟨c1, c2⟩, ⟨r1, r2⟩, ⟨w1, w2⟩, cwk⟩, kq, m1⟩ := one q hq
    subst hq
    refine Or.inr (Or.inr (Or.inr (Or.inr (Or.inr (Or.inr (Or.inr (Or.inr (Or.inl ⟨rfl, m1, ?_⟩))))))))
    rw [kq, e69, e68, B1, B2, B3, B4]
    refine ⟨⟨v1, v2⟩, ⟨v3, v4⟩, rfl, Int.le_refl _, ?_, ?_⟩
    · show rc τ q * b ≤ (rc τ q * b + a - 1) / a * a
      have e1 := Int.emod_add_mul_ediv (rc τ q * b + a - 1) a
      have e2 := Int.emod_lt_of_pos (rc τ q * b + a - 1) (show 0 < a by omega)
      rw [Int.mul_comm ((rc τ q * b + a - 1) / a)]
      omega
    · show tmF a b * wk τ q ≤ tmF a b * wk τ q + 1
      omega
  · obtain ⟨⟨⟨g1, g2⟩, ⟨c1, c2⟩, ⟨r1, r2⟩, ⟨w1, w2⟩, cwk⟩, kq, m1⟩ := one q hq
    subst hq
    have hb : bds τ K a b c d [(q, 1, 1)] = (lcI (gr τ q) b, (if b = 1 then 1 else 2) * cw τ q, rc τ q, (if b = 1 then 1 else 2) * wk τ q + 1) := by rcases hK with rfl | rfl <;> rfl
    rw [hb] at B1 B2 B3 B4
    obtain ⟨-, -, u3, u4, -, -, -⟩ := lcI_b g1 v3
    have nk : NK10 τ p := by
      unfold NK10
      rw [kq, e69, e68, B1, B2, B3, B4]
      refine ⟨m1, ⟨v1, v2⟩, ⟨v3, v4⟩, v5, u3, u4, Int.le_refl _, Int.le_refl _, ?_⟩
      simp only
      split <;> omega
    rcases hK with rfl | rfl
    · exact Or.inr (Or.inr (Or.inr (Or.inr (Or.inr (Or.inr (Or.inr (Or.inr (Or.inr (Or.inl ⟨rfl, nk⟩)))))))))
    · exact Or.inr (Or.inr (Or.inr (Or.inr (Or.inr (Or.inr (Or.inr (Or.inr (Or.inr (Or.inr (Or.inl ⟨rfl, nk⟩))))))))))
  · obtain ⟨⟨⟨g1, g2⟩, ⟨c1, c2⟩, ⟨r1, r2⟩, ⟨w1, w2⟩, cwk⟩, kq, m1⟩ := one q hq
    subst hq
    refine Or.inr (Or.inr (Or.inr (Or.inr (Or.inr (Or.inr (Or.inr (Or.inr (Or.inr (Or.inr (Or.inr (Or.inl ⟨rfl, m1, ?_⟩)))))))))))
    rw [kq, B1, B2, B4]
    exact ⟨rfl, Int.le_refl _, by show wk τ q ≤ wk τ q + 1; omega⟩
  · obtain ⟨rq, rr, kq, kr, m1⟩ := two q r hq
    have hb : bds τ K a b c d l = (lcK τ 1 l, mxK (cw τ) 0 l, mxK (rc τ) 0 l, mxK (wk τ) 0 l + 1) := by rcases hK with rfl | rfl <;> rfl
    rw [hb] at B1 B2 B3 B4
    have iq : (q, 1, 1) ∈ l := by rw [hq]; simp
    have ir : (r, 1, 1) ∈ l := by rw [hq]; simp
    have nk : NK13 τ p := by
      unfold NK13 sub
      rw [kq, kr, e69, B1, B2, B3, B4]
      have y1 : wk τ q ≤ mxK (wk τ) 0 l := mW.2 _ iq
      have y2 : wk τ r ≤ mxK (wk τ) 0 l := mW.2 _ ir
      exact ⟨m1, ⟨v1, by omega⟩, lcd _ iq, lcd _ ir, ⟨mC.2 _ iq, mR.2 _ iq, by simp only; omega⟩, ⟨mC.2 _ ir, mR.2 _ ir, by simp only; omega⟩⟩
    rcases hK with rfl | rfl
    · exact Or.inr (Or.inr (Or.inr (Or.inr (Or.inr (Or.inr (Or.inr (Or.inr (Or.inr (Or.inr (Or.inr (Or.inr (Or.inl ⟨rfl, nk⟩))))))))))))
    · exact Or.inr (Or.inr (Or.inr (Or.inr (Or.inr (Or.inr (Or.inr (Or.inr (Or.inr (Or.inr (Or.inr (Or.inr (Or.inr (Or.inl ⟨rfl, nk, by rw [e68]; exact ⟨v3, by omega⟩⟩)))))))))))))
  · obtain ⟨rq, rr, kq, kr, m1⟩ := two q r hq
    have iq : (q, 1, 1) ∈ l := by rw [hq]; simp
    have ir : (r, 1, 1) ∈ l := by rw [hq]; simp
    have nk := nk15 τ p l q r hq kq kr m1 kok B1 B2 B3 B4 lcd mR wkd
    exact Or.inr (Or.inr (Or.inr (Or.inr (Or.inr (Or.inr (Or.inr (Or.inr (Or.inr (Or.inr (Or.inr (Or.inr (Or.inr (Or.inr (Or.inl ⟨rfl, nk, by rw [e69]; exact ⟨v1, by omega⟩⟩))))))))))))))
  · obtain ⟨rq, rr, kq, kr, m1⟩ := two q r hq
    have nk := nk15 τ p l q r hq kq kr m1 kok B1 B2 B3 B4 lcd mR wkd
    exact Or.inr (Or.inr (Or.inr (Or.inr (Or.inr (Or.inr (Or.inr (Or.inr (Or.inr (Or.inr (Or.inr (Or.inr (Or.inr (Or.inr (Or.inr (Or.inl ⟨rfl, nk, by rw [e69]; exact v1, by rw [e68]; exact v2, by rw [e67]; exact v3, by rw [e66]; exact v4⟩)))))))))))))))
  · obtain ⟨⟨⟨g1, g2⟩, ⟨c1, c2⟩, ⟨r1, r2⟩, ⟨w1, w2⟩, cwk⟩, kq, m1⟩ := one q hq
    subst hq
    rcases hK with rfl | rfl
    · obtain ⟨-, -, u3, u4, -, -, -⟩ := lcI_b g1 v1
      refine Or.inr (Or.inr (Or.inr (Or.inr (Or.inr (Or.inr (Or.inr (Or.inr (Or.inr (Or.inr (Or.inr (Or.inr (Or.inr (Or.inr (Or.inr (Or.inr (Or.inl ⟨rfl, ⟨m1, by rw [e68]; exact v3⟩, ?_⟩))))))))))))))))
      rw [kq, e69, B1, B2, B3, B4]
      exact ⟨⟨v1, v2⟩, u3, u4, Int.le_refl _, Int.le_refl _, by show wk τ q ≤ 2 * wk τ q + 1; omega⟩
    · refine Or.inr (Or.inr (Or.inr (Or.inr (Or.inr (Or.inr (Or.inr (Or.inr (Or.inr (Or.inr (Or.inr (Or.inr (Or.inr (Or.inr (Or.inr (Or.inr (Or.inr (Or.inl ⟨rfl, ⟨m1, by rw [e68]; exact v3⟩, ?_⟩)))))))))))))))))
      rw [kq, e69, B1, B2, B3, B4]
      refine ⟨⟨v1, v2⟩, rfl, Int.le_refl _, Int.le_refl _, ?_⟩
      have x1 : 0 ≤ a * cw τ q := Int.mul_nonneg (by omega) c1
      have x2 : (wk τ q + a * cw τ q) * 1 ≤ (wk τ q + a * cw τ q) * (rc τ q + 1) := Int.mul_le_mul_of_nonneg_left (by omega) (by omega)
      show wk τ q ≤ (rc τ q + 1) * (wk τ q + a * cw τ q) + 1
      rw [Int.mul_comm]
      omega
  · obtain ⟨⟨⟨g1, g2⟩, ⟨c1, c2⟩, ⟨r1, r2⟩, ⟨w1, w2⟩, cwk⟩, kq, m1⟩ := one q hq
    subst hq
    refine Or.inr (Or.inr (Or.inr (Or.inr (Or.inr (Or.inr (Or.inr (Or.inr (Or.inr (Or.inr (Or.inr (Or.inr (Or.inr (Or.inr (Or.inr (Or.inr (Or.inr (Or.inr (Or.inl ⟨rfl, m1, ?_⟩))))))))))))))))))
    unfold sub
    rw [kq, e69, B1, B2, B3, B4]
    exact ⟨⟨v1, v2⟩, rfl, Int.le_refl _, Int.le_refl _, by show wk τ q ≤ wk τ q + cw τ q + 1; omega⟩
  · obtain ⟨⟨⟨g1, g2⟩, ⟨c1, c2⟩, ⟨r1, r2⟩, ⟨w1, w2⟩, cwk⟩, kq, m1⟩ := one q hq
    subst hq
    have D0 : 0 < b * d := Int.mul_pos (by omega) (by omega)
    have dD : gC (c * b - a * d) (b * d) ∣ b * d := Int.gcd_dvd_right _ _
    have g0 : 0 < gC (c * b - a * d) (b * d) := gC_pos D0
    have d1 := dv_pos dD (by omega) (by omega)
    have m0 := Int.mul_le_mul d1 g1 (by omega) (by omega)
    obtain ⟨-, -, u3, u4, -, -, -⟩ := lcI_b v3 (show 1 ≤ b * d / gC (c * b - a * d) (b * d) * gr τ q by omega)
    refine Or.inr (Or.inr (Or.inr (Or.inr (Or.inr (Or.inr (Or.inr (Or.inr (Or.inr (Or.inr (Or.inr (Or.inr (Or.inr (Or.inr (Or.inr (Or.inr (Or.inr (Or.inr (Or.inr (Or.inl ⟨rfl, m1, ?_⟩)))))))))))))))))))
    unfold sub spU spD
    rw [kq, e69, e68, e67, e66, B1, B2, B3, B4]
    exact ⟨⟨v1, v2⟩, ⟨v3, v4⟩, ⟨v5, v6⟩, ⟨v7, v8⟩, v9, u3, u4, Int.le_refl _, Int.le_refl _, by show wk τ q ≤ wk τ q + 1; omega⟩
  · obtain ⟨⟨⟨g1, g2⟩, ⟨c1, c2⟩, ⟨r1, r2⟩, ⟨w1, w2⟩, cwk⟩, kq, m1⟩ := one q hq
    subst hq
    have hb : bds τ K a b c d [(q, 1, 1)] = (gr τ q, cw τ q, rc τ q, wk τ q + 1) := by rcases hK with rfl | rfl <;> rfl
    rw [hb] at B1 B2 B3 B4
    have nk : NK19 τ p := by
      unfold NK19 sub
      rw [kq, e69, B1, B2, B3, B4]
      exact ⟨m1, ⟨v1, v2⟩, rfl, Int.le_refl _, Int.le_refl _, by simp only; omega⟩
    rcases hK with rfl | rfl
    · exact Or.inr (Or.inr (Or.inr (Or.inr (Or.inr (Or.inr (Or.inr (Or.inr (Or.inr (Or.inr (Or.inr (Or.inr (Or.inr (Or.inr (Or.inr (Or.inr (Or.inr (Or.inr (Or.inr (Or.inr (Or.inl ⟨rfl, nk, by rw [e68]; exact ⟨v3, v4⟩⟩))))))))))))))))))))
    · exact Or.inr (Or.inr (Or.inr (Or.inr (Or.inr (Or.inr (Or.inr (Or.inr (Or.inr (Or.inr (Or.inr (Or.inr (Or.inr (Or.inr (Or.inr (Or.inr (Or.inr (Or.inr (Or.inr (Or.inr (Or.inr (Or.inl ⟨rfl, nk, by rw [e68]; exact ⟨v3, v4⟩⟩)))))))))))))))))))))
  · obtain ⟨rq, rr, kq, kr, m1⟩ := two q r hq
    rcases hK with rfl | rfl
    · refine Or.inr (Or.inr (Or.inr (Or.inr (Or.inr (Or.inr (Or.inr (Or.inr (Or.inr (Or.inr (Or.inr (Or.inr (Or.inr (Or.inr (Or.inr (Or.inr (Or.inr (Or.inr (Or.inr (Or.inr (Or.inr (Or.inr (Or.inl ⟨rfl, ?_⟩))))))))))))))))))))))
      have hb : bds τ 23 a b c d l = meB τ q r := by rw [hq]; rfl
      rw [kq, kr]
      exact nk23 τ p q r m1 rq rr (hB.trans hb)
    · refine Or.inr (Or.inr (Or.inr (Or.inr (Or.inr (Or.inr (Or.inr (Or.inr (Or.inr (Or.inr (Or.inr (Or.inr (Or.inr (Or.inr (Or.inr (Or.inr (Or.inr (Or.inr (Or.inr (Or.inr (Or.inr (Or.inr (Or.inr (Or.inl ⟨rfl, ?_⟩)))))))))))))))))))))))
      have hb : bds τ 24 a b c d l = meB τ r q := by rw [hq]; rfl
      rw [kq, kr]
      exact nk23 τ p r q m1 rr rq (hB.trans hb)
  · obtain ⟨rq, rr, kq, kr, m1⟩ := two q r hq
    refine Or.inr (Or.inr (Or.inr (Or.inr (Or.inr (Or.inr (Or.inr (Or.inr (Or.inr (Or.inr (Or.inr (Or.inr (Or.inr (Or.inr (Or.inr (Or.inr (Or.inr (Or.inr (Or.inr (Or.inr (Or.inr (Or.inr (Or.inr (Or.inr ⟨rfl, ?_, by rw [e69]; exact v1⟩)))))))))))))))))))))))
    have hb : bds τ 25 a b c d l = meB τ q r := by rw [hq]; rfl
    rw [kq, kr]
    exact nk23 τ p q r m1 rq rr (hB.trans hb)
