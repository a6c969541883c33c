/-! every row is good -/
theorem VO.mk {A B N h w : Int} (h1 : RWd w A B) (h2 : i64 w) (h3 : w = 0 ↔ h = 2) (h4 : i32 N) (h5 : 1 ≤ h) (h6 : h ≤ 3) (h7 : h = 1 → N = 0) : VO (A, B, N, h) := ⟨w, h1, h2, h3, rfl, h4, rfl, h5, h6, h7⟩
theorem VO.joi {K a : Int} {v s : Vl} (hv : VO v) (hs : VO s) : VO (joiV K a v s) := by
  obtain ⟨A, B, N, h⟩ := v
  obtain ⟨A', B', N', h'⟩ := s
  obtain ⟨w, v1, v2, v3, -, v4, -, v5, v6, v7⟩ := id hv
  obtain ⟨w', s1, s2, s3, -, s4, -, s5, s6, s7⟩ := id hs
  simp only at v1 v2 v3 v4 v5 v6 v7 s1 s2 s3 s4 s5 s6 s7
  unfold joiV
  split
  · exact hs
  split
  · exact hv
  split
  · simp only
    by_cases c : h' = 2
    · rw [if_pos c, if_pos c, if_neg (by omega)]
      refine VO.mk v1 v2 ?_ s4 (by split <;> omega) (by split <;> omega) (fun k => by split at k <;> omega)
      split <;> omega
    · rw [if_neg c, if_neg c]
      refine VO.mk s1 s2 ?_ (by split <;> assumption) (by split <;> omega) (by split <;> omega) (fun k => ?_)
      · split <;> omega
      · split
        · exact v7 (by split at k <;> omega)
        · split at k <;> omega
  simp only
  by_cases c : 2 ≤ h ∧ 2 ≤ h'
  · rw [if_pos c]
    exact VO.mk v1 v2 v3 (w32_i _) v5 v6 (fun k => by omega)
  · rw [if_neg c]
    exact hv
theorem meeL_good {K a lo hi len : Int} {f : Int → Option Vl} (hf : ∀ x v, f x = some v → VO v) : ∀ {l : List Evt}, Gd lo hi len l → Gd lo hi len (meeL K a f l) ∧ (meeL K a f l).length ≤ l.length ∧ ∀ x ∈ meeL K a f l, ∃ y ∈ l, x.1 = y.1
  | [], _ => ⟨Gd.nil, Nat.le_refl _, fun x h => by cases h⟩
  | e :: l, h => by
    have h2 := List.pairwise_cons.1 h.2
    obtain ⟨i1, i2, i3⟩ := meeL_good (K := K) (a := a) hf (l := l) ⟨fun x hx => h.1 x (by simp [hx]), h2.2⟩
    obtain ⟨e1, e2, e3⟩ := h.1 e (by simp)
    -- one event or none, at its own time
    have one : ∀ (o : List Evt), (o = [] ∨ ∃ v, VO v ∧ o = [(e.1, e.2.1, v)]) → Gd lo hi len (o ++ meeL K a f l) ∧ (o ++ meeL K a f l).length ≤ (e :: l).length ∧ ∀ x ∈ o ++ meeL K a f l, ∃ y ∈ e :: l, x.1 = y.1 := by
      intro o ho
      rcases ho with rfl | ⟨v, hv, rfl⟩
      · rw [List.nil_append, List.length_cons]
        exact ⟨i1, by omega, fun x hx => by obtain ⟨y, hy, h⟩ := i3 x hx; exact ⟨y, by simp [hy], h⟩⟩
      · refine ⟨⟨fun x hx => ?_, List.pairwise_cons.2 ⟨fun x hx => ?_, i1.2⟩⟩, ?_, fun x hx => ?_⟩
        · rcases List.mem_cons.1 hx with rfl | hx
          · exact ⟨e1, e2, hv⟩
          · exact i1.1 x hx
        · obtain ⟨y, hy, h⟩ := i3 x hx
          rw [h]
          exact h2.1 y hy
        · simp only [List.length_cons, List.cons_append, List.nil_append]; omega
        · rcases List.mem_cons.1 hx with rfl | hx
          · exact ⟨e, by simp, rfl⟩
          · obtain ⟨y, hy, h⟩ := i3 x hx; exact ⟨y, by simp [hy], h⟩
    rw [meeL]
    apply one
    split
    · rename_i s hs
      split
      · exact Or.inl rfl
      · exact Or.inr ⟨_, e3.joi (hf _ _ hs), rfl⟩
    · split
      · exact Or.inr ⟨e.2.2, e3, rfl⟩
      · exact Or.inl rfl
section GR
variable {τ : St} {R : Int → Int → List Evt} {d : Nat} {p : Int}
theorem metL_good (hm : ∀ q c, q = kd τ p 0 ∨ q = kd τ p 1 → Good τ q (R q c)) {c m o : Int} (hmm : m = kd τ p 0 ∨ m = kd τ p 1) (hoo : o = kd τ p 0 ∨ o = kd τ p 1) (h1 : gr τ m = gr τ p) (h2 : sub τ p m) (hg : 1 ≤ gr τ p) : Good τ p (metL τ R p c m o) := by
  have g1 := hm m c hmm
  have g2 : Gd 0 (gr τ p) (rc τ p * gr τ p) (R m c) := g1.2.wk (Int.le_refl _) (by omega) (by rw [h1]; exact Int.mul_le_mul_of_nonneg_right h2.2.1 (by omega))
  have hf : ∀ x v, (fun x => fndL (R o) (gr τ p) (gr τ o) (x * gr τ o) c (rc τ o + 1).toNat c) x = some v → VO v := by
    intro x v h
    obtain ⟨j, e, he, h3⟩ := fndL_mem h
    have := ((hm o j hoo).2.1 e he).2.2
    rw [h3] at this
    exact this
  have l1 := g1.1
  have l2 := h2.1
  unfold metL
  by_cases c23 : el τ 70 p = 23
  · rw [if_pos c23]
    obtain ⟨a1, a2, -⟩ := meeL_good (K := el τ 70 p) (a := el τ 69 p) hf (g2.flt (fun e => louE e.2.2))
    have := flt_len (fun e => louE e.2.2) (R m c)
    exact ⟨by omega, a1⟩
  · rw [if_neg c23]
    obtain ⟨a1, a2, -⟩ := meeL_good (K := el τ 70 p) (a := el τ 69 p) hf g2
    exact ⟨by omega, a1⟩
theorem ceil_count {c a b : Int} (ha : 1 ≤ a) (hb : 1 ≤ b) : (((c + 1) * a - 1) / b - c * a / b + 1).toNat ≤ (a + b - 1) / b + (if b = 1 then 0 else 1) := by
  have e1 : (c + 1) * a = c * a + a := by rw [Int.add_mul]; omega
  rw [e1]
  generalize c * a = X
  by_cases h : b = 1
  · subst h
    simp only [Int.ediv_one]
    omega
  · rw [if_neg h]
    have h1 : (X + a - 1) / b ≤ X / b + ((a + b - 1) / b) := by
      have d1 := Int.emod_add_mul_ediv X b
      have d2 := Int.emod_add_mul_ediv (a + b - 1) b
      have d3 := Int.emod_add_mul_ediv (X + a - 1) b
      have x1 := Int.emod_lt_of_pos X (show 0 < b by omega)
      have y1 := Int.emod_lt_of_pos (a + b - 1) (show 0 < b by omega)
      have z0 := Int.emod_nonneg (X + a - 1) (show b ≠ 0 by omega)
      have : (X + a - 1) / b < X / b + (a + b - 1) / b + 1 := by
        rw [Int.ediv_lt_iff_lt_mul (by omega), Int.add_mul, Int.add_mul]
        have : X / b * b = X - X % b := by rw [Int.mul_comm]; omega
        have : (a + b - 1) / b * b = a + b - 1 - (a + b - 1) % b := by rw [Int.mul_comm]; omega
        omega
      omega
    have h0 : 0 ≤ (a + b - 1) / b := Int.ediv_nonneg (by omega) (by omega)
    omega
theorem rowK_good (hT : TN τ (d + 1) p) (hR : ∀ q c, TN τ d q → Good τ q (R q c)) (c : Int) : Good τ p (rowK τ R p c) := by
  obtain ⟨-, hr, -, hk, hn⟩ := id hT
  obtain ⟨⟨g1, g2⟩, ⟨c1, c2⟩, ⟨r1, r2⟩, -, -⟩ := id hr
  have kg : ∀ i, 0 ≤ i → i < el τ 64 p → 1 ≤ gr τ (kd τ p i) ∧ 1 ≤ rc τ (kd τ p i) ∧ 0 ≤ cw τ (kd τ p i) ∧ ∀ c, Good τ (kd τ p i) (R (kd τ p i) c) := fun i h0 h1 => ⟨(hk i h0 h1).rng.1.1, (hk i h0 h1).rng.2.2.1.1, (hk i h0 h1).rng.2.1.1, fun c => hR _ c (hk i h0 h1)⟩
  have kk : ∀ k ∈ kl τ p, 1 ≤ gr τ k.1 ∧ 1 ≤ rc τ k.1 ∧ 0 ≤ cw τ k.1 ∧ ∀ c, Good τ k.1 (R k.1 c) := fun k h => by
    obtain ⟨i, h0, h1, rfl⟩ := kl_mem h
    exact kg i h0 h1
  have kne : 1 ≤ el τ 64 p → kl τ p ≠ [] := fun h e => by
    have := kidF_len τ (el τ 64 p).toNat (el τ 65 p)
    unfold kl at e
    rw [e] at this
    simp at this
    omega
  -- one kid, stretched
  have one : ∀ (q c' : Int) , (∃ i, 0 ≤ i ∧ i < el τ 64 p ∧ q = kd τ p i) → gr τ q ∣ gr τ p → sub τ p q → Good τ p (mv (gr τ p / gr τ q) 0 (R q c')) := by
    intro q c' ⟨i, i0, i1, hq⟩ hd hs
    subst hq
    obtain ⟨a1, a2, a3, a4⟩ := kg i i0 i1
    refine ⟨?_, (a4 c').kid a1 hd g1 hs.2.1⟩
    rw [mv_len]
    have := (a4 c').1
    have := hs.1
    omega
  have two : ∀ q c, el τ 64 p = 2 → (q = kd τ p 0 ∨ q = kd τ p 1) → Good τ q (R q c) := fun q c h hq => by
    rcases hq with rfl | rfl
    · exact (kg 0 (by omega) (by omega)).2.2.2 c
    · exact (kg 1 (by omega) (by omega)).2.2.2 c
  have shf : ∀ (j0 : Int) {a b : Int}, el τ 64 p = 1 → 1 ≤ b → b ∣ gr τ p → (if b = 1 then 1 else 2) * cw τ (kd τ p 0) ≤ cw τ p → gr τ (kd τ p 0) ∣ gr τ p → rc τ (kd τ p 0) ≤ rc τ p ∧ wk τ (kd τ p 0) ≤ wk τ p → Good τ p (rwsL (fun j => R (kd τ p 0) (c + j)) (gr τ p / gr τ (kd τ p 0)) (fun j => j * gr τ p - a * (gr τ p / b)) (gr τ p) (if b = 1 then 1 else 2) j0) := by
    intro j0 a b n1 hb hbd hc hd hw
    obtain ⟨b1, b2, b3, b4⟩ := kg 0 (by omega) (by omega)
    have k1 := dv_pos hd b1 g1
    have k2 := dv_mul hd
    obtain ⟨a1, -, a2⟩ := rwsL_good (R := fun j => R (kd τ p 0) (c + j)) (k := gr τ p / gr τ (kd τ p 0)) (g := gr τ (kd τ p 0)) (M := rc τ (kd τ p 0) * gr τ (kd τ p 0)) (C := cw τ (kd τ p 0)) (G := gr τ p) (b := fun j => j * gr τ p - a * (gr τ p / b)) k1 (fun j => by
      show (j + 1) * gr τ p - _ = j * gr τ p - _ + _
      rw [Int.add_mul, Int.mul_comm (gr τ (kd τ p 0)), k2]; omega) (fun j => (b4 _).1) (fun j => (b4 _).2) (if b = 1 then 1 else 2) j0
    refine ⟨?_, ?_⟩
    · refine Int.le_trans a2 (Int.le_trans (Int.le_of_eq ?_) hc)
      split <;> rfl
    · refine a1.wk (Int.le_refl _) (Int.le_refl _) ?_
      rw [Int.mul_assoc, Int.mul_comm (gr τ (kd τ p 0)), k2]
      exact Int.mul_le_mul_of_nonneg_right hw.1 (by omega)
  have win : ∀ (P Q : Evt → Bool), el τ 64 p = 2 → gr τ (kd τ p 0) ∣ gr τ p → gr τ (kd τ p 1) ∣ gr τ p → cw τ (kd τ p 0) + cw τ (kd τ p 1) ≤ cw τ p → rc τ (kd τ p 0) ≤ rc τ p → rc τ (kd τ p 1) ≤ rc τ p → Good τ p (sortE ((mv (gr τ p / gr τ (kd τ p 0)) 0 (R (kd τ p 0) c)).filter P ++ (mv (gr τ p / gr τ (kd τ p 1)) 0 (R (kd τ p 1) c)).filter Q)) := by
    intro P Q n1 n2 n3 n4 n5 n6
    obtain ⟨b1, b2, b3, b4⟩ := kg 0 (by omega) (by omega)
    obtain ⟨d1, d2, d3, d4⟩ := kg 1 (by omega) (by omega)
    have u1 := ((b4 c).kid b1 n2 g1 n5).1.flt P
    have u2 := ((d4 c).kid d1 n3 g1 n6).1.flt Q
    refine ⟨?_, (u1.app u2).srt⟩
    show ((isoL ltE _).length : Int) ≤ _
    rw [isoL_len, List.length_append]
    have l1 := flt_len P (mv (gr τ p / gr τ (kd τ p 0)) 0 (R (kd τ p 0) c))
    have l2 := flt_len Q (mv (gr τ p / gr τ (kd τ p 1)) 0 (R (kd τ p 1) c))
    rw [mv_len] at l1 l2
    have := (b4 c).1
    have := (d4 c).1
    omega
  have flt1 : ∀ (P : Evt → Bool), el τ 64 p = 1 → gr τ (kd τ p 0) = gr τ p → sub τ p (kd τ p 0) → Good τ p ((R (kd τ p 0) c).filter P) := by
    intro P n1 n2 n3
    obtain ⟨b1, b2, b3, b4⟩ := kg 0 (by omega) (by omega)
    have u := (b4 c).2
    rw [n2] at u
    have l1 := flt_len P (R (kd τ p 0) c)
    have := (b4 c).1
    have := n3.1
    exact ⟨by omega, (u.flt P).wk (Int.le_refl _) (Int.le_refl _) (Int.mul_le_mul_of_nonneg_right n3.2.1 (by omega))⟩
  unfold rowK
  simp only
  rcases hn with ⟨hK, n1, n2, n3⟩ | ⟨hK, n1, n2, n3⟩ | hK | ⟨hK, n0, G, n1, n2, n3⟩ | ⟨hK, n1, n2⟩ | ⟨hK, n1, -, n2⟩ | ⟨hK, n0, -, n1, G, n2, n3⟩ | ⟨hK, n1, n2, n3, n4, n5, n6, n7, n8⟩ | ⟨hK, n1, n2, n3, n4, n5, n6, n7⟩ | ⟨hK, n1, n2, n3, n4, n5, n6, n7, n8, n9⟩ | ⟨hK, n1, n2, n3, n4, n5, n6, n7, n8, n9⟩ | ⟨hK, n1, n2, n3, n4⟩ | ⟨hK, n1, n2, n3, n4, n5, n6⟩ | ⟨hK, ⟨n1, n2, n3, n4, n5, n6⟩, n7⟩ | ⟨hK, ⟨n1, n2, n3, n4, n5, n6, n7, n8⟩, n9⟩ | ⟨hK, ⟨n1, n2, n3, n4, n5, n6, n7, n8⟩, n9⟩ | ⟨hK, n1, n2, n3, n4, n5, n6, n7⟩ | ⟨hK, n1, n2, n3, n4, n5, n6⟩ | ⟨hK, n1, n2, n3, n4⟩ | ⟨hK, n1, n2, n3, n4, n5, n6, n7, n8, n9⟩ | ⟨hK, ⟨n1, n2, n3, n4⟩, n5⟩ | ⟨hK, ⟨n1, n2, n3, n4⟩, n5⟩ | ⟨hK, n1, n2, n3, n4⟩ | ⟨hK, n1, n2, n3, n4⟩ | ⟨hK, ⟨n1, n2, n3, n4⟩, n5⟩ <;> rw [hK]
  · -- word
    refine ⟨by simp; omega, fun e he => ?_, by simp⟩
    rw [List.mem_singleton.1 he, n1]
    refine ⟨⟨by simp, by simp⟩, ⟨by simp, ?_⟩, n3⟩
    show 1 ≤ rc τ p * 1
    omega
  · refine ⟨by simp; omega, fun e he => ?_, by simp⟩
    rw [List.mem_singleton.1 he, n1]
    refine ⟨⟨by simp, by simp⟩, ⟨by simp, ?_⟩, ?_⟩
    · show 1 ≤ rc τ p * 1
      omega
    · exact VO.mk (w := 0) ⟨[], (by unfold okL; simp), by decide, rfl, rfl, rfl⟩ (by decide) (by decide) n3 (by decide) (by decide) (fun k => by omega)
  · exact ⟨by simp; omega, Gd.nil⟩
  · -- sequence
    have kk2 : ∀ k ∈ kl τ p, 1 ≤ k.2.1 ∧ 1 ≤ k.2.2 := fun k h => ⟨(n3 k h).1.1, (n3 k h).2.1.1⟩
    obtain ⟨w0, w1⟩ := wS_pos kk2
    have wp : 1 ≤ wS (kl τ p) := by
      rcases Int.lt_or_le 0 (wS (kl τ p)) with h | h
      · omega
      · exfalso
        have : wS (kl τ p) = 0 := by omega
        rw [this, Int.zero_mul] at n1
        omega
    have hs : gr τ p / wS (kl τ p) = G := by rw [n1, Int.mul_ediv_cancel_left _ (by omega)]
    have hG : 1 ≤ G := by
      rcases Int.lt_or_le 0 G with h | h
      · omega
      · have := Int.mul_le_mul_of_nonneg_left h w0
        omega
    obtain ⟨a1, a2⟩ := seqL_good (τ := τ) (R := fun q => R q c) (sh := G) (M := rc τ p * gr τ p) hG (kl τ p) 0 (fun k h => by
      obtain ⟨b1, b2, b3, b4⟩ := kk k h
      obtain ⟨m1, m2, m3, m4, m5⟩ := n3 k h
      refine ⟨kk2 k h, b4 c, b1, m3, ?_⟩
      rw [n1]
      have u1 : k.2.1 * G ≤ wS (kl τ p) * G := Int.mul_le_mul_of_nonneg_right (w1 k h) (by omega)
      have u2 : 0 ≤ k.2.1 * G := Int.mul_nonneg (by omega) (by omega)
      have u3 := Int.mul_le_mul_of_nonneg_right m4 u2
      have u4 := Int.mul_le_mul_of_nonneg_left u1 (show 0 ≤ rc τ p by omega)
      omega)
    rw [hs]
    simp only [if_neg (show ¬ (4 : Int) = 1 by decide), if_neg (show ¬ (4 : Int) = 2 by decide), if_neg (show ¬ (4 : Int) = 3 by decide), if_pos]
    refine ⟨by omega, ?_⟩
    rw [n1] at a1 ⊢
    rw [Int.zero_mul, Int.zero_add] at a1
    exact a1
  · obtain ⟨a1, a2⟩ := allL_good (τ := τ) (R := fun q => R q c) (G := gr τ p) (Rr := rc τ p) g1 (kl τ p) (fun k h => by
      obtain ⟨b1, b2, b3, b4⟩ := kk k h
      obtain ⟨m1, m2, m3, m4⟩ := n2 k h
      exact ⟨m1, b4 c, b1, m2, m3⟩)
    exact ⟨by show ((isoL ltE _).length : Int) ≤ _; rw [isoL_len]; omega, a1.srt⟩
  · obtain ⟨k, hk1, hk2⟩ := katL_mem (c % wS (kl τ p)) (kne n1)
    obtain ⟨i, i0, i1, hki⟩ := kl_mem hk1
    obtain ⟨m1, m2, m3, m4⟩ := n2 k hk1
    show Good τ p (mv (gr τ p / gr τ (katL (kl τ p) (c % wS (kl τ p)))) 0 (R (katL (kl τ p) (c % wS (kl τ p))) (c / wS (kl τ p))))
    rw [hk2]
    exact one _ _ ⟨i, i0, i1, by rw [hki]⟩ m3 m4
  · have hs : gr τ p / el τ 69 p = G := by rw [n2, Int.mul_ediv_cancel_left _ (by omega)]
    have hG : 1 ≤ G := by
      rcases Int.lt_or_le 0 G with h | h
      · omega
      · have := Int.mul_le_mul_of_nonneg_left h (show 0 ≤ el τ 69 p by omega)
        omega
    have e1 : ((el τ 69 p).toNat : Int) = el τ 69 p := Int.toNat_of_nonneg (by omega)
    obtain ⟨a1, a2⟩ := polL_good (τ := τ) (R := R) (l := kl τ p) (c := c) (n := el τ 69 p) (sh := G) (M := rc τ p * gr τ p) (C := cw τ p / el τ 69 p) hG (kne n0) (fun k h => by
      obtain ⟨b1, b2, b3, b4⟩ := kk k h
      obtain ⟨m1, m2, m3, m4, m5, m6⟩ := n3 k h
      refine ⟨b4, b1, m3, ?_, ?_⟩
      · have hGp : G ≤ gr τ p := by
          rw [n2]
          have := Int.mul_le_mul_of_nonneg_right n1.1 (show 0 ≤ G by omega)
          omega
        have u1 := Int.mul_le_mul_of_nonneg_right m5 (show 0 ≤ G by omega)
        have u2 := Int.mul_le_mul_of_nonneg_left hGp (show 0 ≤ rc τ p by omega)
        omega
      · rw [Int.le_ediv_iff_mul_le (by omega), Int.mul_comm]
        exact m4) (el τ 69 p).toNat 0
    show Good τ p (polL τ R (kl τ p) c (el τ 69 p) (gr τ p / el τ 69 p) (el τ 69 p).toNat 0)
    rw [hs]
    rw [e1] at a1 a2
    refine ⟨?_, ?_⟩
    · have := Int.mul_ediv_self_le (x := cw τ p) (k := el τ 69 p) (by omega)
      omega
    · rw [n2] at a1 ⊢
      rw [Int.zero_mul, Int.zero_add] at a1
      exact a1
  · obtain ⟨b1, b2, b3, b4⟩ := kg 0 (by omega) (by omega)
    obtain ⟨a1, a2⟩ := sprL_good (τ := τ) (q := kd τ p 0) (L := R (kd τ p 0) c) (a := el τ 69 p) (n := el τ 68 p) (t := el τ 67 p) (Rr := rc τ p) (b4 c) b1 n7 (by omega) (by omega) (el τ 68 p).toNat 0
    rw [sprN_n (by omega) n2.1 n2.2] at a2
    have e1 : ((el τ 68 p).toNat : Int) = el τ 68 p := Int.toNat_of_nonneg (by omega)
    rw [e1, Int.zero_mul, Int.zero_add, ← n5] at a1
    exact ⟨by show ((sprL _ _ _ _ _ _ _).length : Int) ≤ _; omega, a1⟩
  · obtain ⟨b1, b2, b3, b4⟩ := kg 0 (by omega) (by omega)
    obtain ⟨a1, -, a2⟩ := rwsL_good (R := R (kd τ p 0)) (k := el τ 68 p) (g := gr τ (kd τ p 0)) (M := rc τ (kd τ p 0) * gr τ (kd τ p 0)) (C := cw τ (kd τ p 0)) (G := gr τ p) (b := fun j => (j * el τ 68 p - c * el τ 69 p) * gr τ (kd τ p 0)) (by omega) (fun j => by
      show ((j + 1) * el τ 68 p - c * el τ 69 p) * gr τ (kd τ p 0) = _
      rw [show (j + 1) * el τ 68 p - c * el τ 69 p = (j * el τ 68 p - c * el τ 69 p) + el τ 68 p by rw [Int.add_mul]; omega, Int.add_mul, Int.mul_comm (el τ 68 p)]) (fun j => (b4 j).1) (fun j => (b4 j).2) (((c + 1) * el τ 69 p - 1) / el τ 68 p - c * el τ 69 p / el τ 68 p + 1).toNat (c * el τ 69 p / el τ 68 p)
    refine ⟨?_, ?_⟩
    · have h1 := ceil_count (c := c) n2.1 n3.1
      have h2 := Int.mul_le_mul_of_nonneg_right (show (((((c + 1) * el τ 69 p - 1) / el τ 68 p - c * el τ 69 p / el τ 68 p + 1).toNat : Nat) : Int) ≤ ((el τ 69 p + el τ 68 p - 1) / el τ 68 p + (if el τ 68 p = 1 then 0 else 1)) from h1) b3
      show ((rwsL _ _ _ _ _ _).length : Int) ≤ _
      omega
    · refine a1.wk (Int.le_refl _) (Int.le_refl _) ?_
      rw [n4, Int.mul_assoc, Int.mul_comm (gr τ (kd τ p 0)), ← Int.mul_assoc, ← Int.mul_assoc]
      exact Int.mul_le_mul_of_nonneg_right n6 (by omega)
  -- shifted by a fraction
  · exact shf _ (a := el τ 69 p) (b := el τ 68 p) n1 n3.1 n6 n7 n5 ⟨n8, n9⟩
  · exact shf _ (a := -el τ 69 p) (b := el τ 68 p) n1 n3.1 n6 n7 n5 ⟨n8, n9⟩
  · obtain ⟨b1, b2, b3, b4⟩ := kg 0 (by omega) (by omega)
    have u := (b4 c).2.1
    rw [n2] at u
    have a1 := (revL_good u g1).srt
    refine ⟨?_, a1.wk (Int.le_refl _) (Int.le_refl _) ?_⟩
    · show ((isoL ltE _).length : Int) ≤ _
      rw [isoL_len, revL, List.length_map]
      have := (b4 c).1
      omega
    · have := Int.mul_le_mul_of_nonneg_right r1 (show 0 ≤ gr τ p by omega)
      omega
  · show Good τ p (if c % el τ 69 p = 0 then mv (gr τ p / gr τ (kd τ p 1)) 0 (R (kd τ p 1) c) else mv (gr τ p / gr τ (kd τ p 0)) 0 (R (kd τ p 0) c))
    split
    · exact one _ _ ⟨1, by omega, by omega, rfl⟩ n4 n6
    · exact one _ _ ⟨0, by omega, by omega, rfl⟩ n3 n5
  · show Good τ p (if c % el τ 69 p < el τ 68 p then mv (gr τ p / gr τ (kd τ p 0)) 0 (R (kd τ p 0) c) else mv (gr τ p / gr τ (kd τ p 1)) 0 (R (kd τ p 1) c))
    split
    · exact one _ _ ⟨0, by omega, by omega, rfl⟩ n3 n5
    · exact one _ _ ⟨1, by omega, by omega, rfl⟩ n4 n6
  · exact win _ _ n1 n2 n3 n4 n5 n6
  · exact win _ _ n1 n2 n3 n4 n5 n6
  · obtain ⟨b1, b2, b3, b4⟩ := kg 0 (by omega) (by omega)
    have k1 := dv_pos n3 b1 g1
    have k2 := dv_mul n3
    obtain ⟨a1, -, a2⟩ := rwsL_good (R := fun j => R (kd τ p 0) (c + j)) (k := gr τ p / gr τ (kd τ p 0)) (g := gr τ (kd τ p 0)) (M := rc τ (kd τ p 0) * gr τ (kd τ p 0)) (C := cw τ (kd τ p 0)) (G := gr τ p) (b := fun j => j * gr τ p - c % el τ 69 p * (gr τ p / el τ 69 p)) k1 (fun j => by
      show (j + 1) * gr τ p - _ = j * gr τ p - _ + _
      rw [Int.add_mul, Int.mul_comm (gr τ (kd τ p 0)), k2]; omega) (fun j => (b4 _).1) (fun j => (b4 _).2) (if c % el τ 69 p = 0 then 1 else 2) 0
    refine ⟨?_, ?_⟩
    · show ((rwsL _ _ _ _ _ _).length : Int) ≤ _
      refine Int.le_trans a2 (Int.le_trans (Int.mul_le_mul_of_nonneg_right ?_ b3) n5)
      split <;> decide
    · refine a1.wk (Int.le_refl _) (Int.le_refl _) ?_
      rw [Int.mul_assoc, Int.mul_comm (gr τ (kd τ p 0)), k2]
      exact Int.mul_le_mul_of_nonneg_right n6 (by omega)
  · obtain ⟨b1, b2, b3, b4⟩ := kg 0 (by omega) (by omega)
    have e1 : ((rc τ (kd τ p 0) + 1).toNat : Int) = rc τ (kd τ p 0) + 1 := Int.toNat_of_nonneg (by omega)
    obtain ⟨a1, a2⟩ := plyL_good (R := R (kd τ p 0)) (n := el τ 69 p) (G := gr τ p) (c := c) (M := rc τ (kd τ p 0) * gr τ (kd τ p 0)) (g := gr τ (kd τ p 0)) (C := cw τ (kd τ p 0)) n2.1 (fun j => (b4 j).1) (fun j => (b4 j).2.1) (rc τ (kd τ p 0) + 1).toNat (c - rc τ (kd τ p 0))
    rw [e1, Int.mul_comm] at a2
    refine ⟨by show ((isoL ltE _).length : Int) ≤ _; rw [isoL_len]; omega, (a1.srt).wk (Int.le_refl _) (Int.le_refl _) ?_⟩
    have u1 : gr τ (kd τ p 0) ≤ gr τ p := by
      rw [n3]
      have := Int.mul_le_mul_of_nonneg_right n2.1 (show 0 ≤ gr τ (kd τ p 0) by omega)
      omega
    have u2 := Int.mul_le_mul_of_nonneg_right n5 (show 0 ≤ gr τ (kd τ p 0) by omega)
    have u3 := Int.mul_le_mul_of_nonneg_left u1 (show 0 ≤ rc τ p by omega)
    omega
  · obtain ⟨b1, b2, b3, b4⟩ := kg 0 (by omega) (by omega)
    have u := (b4 c).2
    rw [n3] at u
    obtain ⟨a1, a2⟩ := rotL_good (n := (el τ 69 p).toNat) u
    have := (b4 c).1
    have := n4.1
    refine ⟨?_, a1.wk (Int.le_refl _) (Int.le_refl _) (Int.mul_le_mul_of_nonneg_right n4.2.1 (by omega))⟩
    show ((rotL _ _).length : Int) ≤ _
    omega
  · obtain ⟨b1, b2, b3, b4⟩ := kg 0 (by omega) (by omega)
    have l1 := (b4 c).1
    have l2 := n9.1
    have D0 : 0 < spD τ p := Int.mul_pos (by omega) (by omega)
    have g0 : 0 < gC (spU τ p) (spD τ p) := gC_pos D0
    have dU : gC (spU τ p) (spD τ p) ∣ spU τ p := Int.gcd_dvd_left _ _
    have dD : gC (spU τ p) (spD τ p) ∣ spD τ p := Int.gcd_dvd_right _ _
    have U1 := dv_pos dU (by omega) (by omega)
    have D1 := dv_pos dD (by omega) (by omega)
    have eU := dv_mul dU
    have eD := dv_mul dD
    have ebG := dv_mul n7
    generalize hu : spU τ p / gC (spU τ p) (spD τ p) = u at U1 eU ⊢
    generalize hv : spD τ p / gC (spU τ p) (spD τ p) = v at D1 eD n8 ⊢
    have dg : 1 ≤ v * gr τ (kd τ p 0) := by
      have := Int.mul_le_mul_of_nonneg_right D1 (show 0 ≤ gr τ (kd τ p 0) by omega)
      omega
    have F1 := dv_pos n8 dg g1
    have eF := dv_mul n8
    generalize hf : gr τ p / (v * gr τ (kd τ p 0)) = f at F1 eF ⊢
    have t1 : 1 ≤ u * f := by
      have := Int.mul_le_mul_of_nonneg_right U1 (show 0 ≤ f by omega)
      omega
    have a1 := (b4 c).2.mvd (b := el τ 69 p * (gr τ p / el τ 68 p)) t1
    show Good τ p (mv (u * f) (el τ 69 p * (gr τ p / el τ 68 p)) (R (kd τ p 0) c))
    -- u * f * g0 is the span in parts of the grain: at most what is left behind the begin
    have span : gr τ (kd τ p 0) * (u * f) + el τ 69 p * (gr τ p / el τ 68 p) ≤ gr τ p := by
      -- times b * d * gcd
      have h1 : (gr τ (kd τ p 0) * (u * f)) * (el τ 68 p * el τ 66 p) = (el τ 67 p * el τ 68 p - el τ 69 p * el τ 66 p) * gr τ p := by
        have e2 : el τ 68 p * el τ 66 p = v * gC (spU τ p) (spD τ p) := eD.symm
        have e3 : el τ 67 p * el τ 68 p - el τ 69 p * el τ 66 p = u * gC (spU τ p) (spD τ p) := eU.symm
        rw [e2, e3]
        calc gr τ (kd τ p 0) * (u * f) * (v * gC (spU τ p) (spD τ p)) = u * gC (spU τ p) (spD τ p) * (f * (v * gr τ (kd τ p 0))) := by
              simp only [Int.mul_assoc, Int.mul_comm, Int.mul_left_comm]
          _ = _ := by rw [eF]
      have h2 : (el τ 69 p * (gr τ p / el τ 68 p)) * (el τ 68 p * el τ 66 p) = el τ 69 p * el τ 66 p * gr τ p := by
        calc (el τ 69 p * (gr τ p / el τ 68 p)) * (el τ 68 p * el τ 66 p) = el τ 69 p * el τ 66 p * (gr τ p / el τ 68 p * el τ 68 p) := by
              simp only [Int.mul_assoc, Int.mul_comm, Int.mul_left_comm]
          _ = _ := by rw [ebG]
      have h3 : (gr τ (kd τ p 0) * (u * f) + el τ 69 p * (gr τ p / el τ 68 p)) * (el τ 68 p * el τ 66 p) ≤ gr τ p * (el τ 68 p * el τ 66 p) := by
        rw [Int.add_mul, h1, h2, ← Int.add_mul, show el τ 67 p * el τ 68 p - el τ 69 p * el τ 66 p + el τ 69 p * el τ 66 p = el τ 67 p * el τ 68 p by omega, Int.mul_comm (gr τ p)]
        refine Int.mul_le_mul_of_nonneg_right ?_ (by omega)
        rw [Int.mul_comm (el τ 68 p)]
        exact Int.mul_le_mul_of_nonneg_right n4.2 (by omega)
      exact Int.le_of_mul_le_mul_right h3 D0
    have ab : 0 ≤ el τ 69 p * (gr τ p / el τ 68 p) := Int.mul_nonneg (by omega) (Int.ediv_nonneg (by omega) (by omega))
    refine ⟨by rw [mv_len]; omega, a1.wk (by omega) span ?_⟩
    have s2 : gr τ (kd τ p 0) * (u * f) ≤ gr τ p := by omega
    have s3 := Int.mul_le_mul_of_nonneg_left s2 (show 0 ≤ rc τ (kd τ p 0) by omega)
    have s4 := Int.mul_le_mul_of_nonneg_right n9.2.1 (show 0 ≤ gr τ p by omega)
    rw [Int.mul_assoc]
    omega
  · exact flt1 _ n1 n3 n4
  · exact flt1 _ n1 n3 n4
  · exact metL_good (fun q c => two q c n1) (Or.inl rfl) (Or.inr rfl) n2 n3 g1
  · exact metL_good (fun q c => two q c n1) (Or.inr rfl) (Or.inl rfl) n2 n3 g1
  · exact metL_good (fun q c => two q c n1) (Or.inl rfl) (Or.inr rfl) n2 n3 g1
theorem row_good {τ : St} : ∀ (d : Nat) (p c : Int), TN τ d p → Good τ p (rowL τ d p c)
  | 0, _, _, h => h.elim
  | d + 1, p, c, h => rowK_good h (fun q c' hq => row_good d q c' hq) c
end GR
