/-! a pattern is made: both have the same -/
theorem bds_cg {τ τ' : St} {K a b c d : Int} {l : List Kid} (hv : IV K a b c d l) (h : ∀ k ∈ l, gr τ' k.1 = gr τ k.1 ∧ cw τ' k.1 = cw τ k.1 ∧ rc τ' k.1 = rc τ k.1 ∧ wk τ' k.1 = wk τ k.1) : bds τ' K a b c d l = bds τ K a b c d l := by
  have lc : ∀ (m : List Kid) (x : Int), (∀ k ∈ m, gr τ' k.1 = gr τ k.1) → lcK τ' x m = lcK τ x m := by
    intro m
    induction m with
    | nil => intro x _; rfl
    | cons k m ih => intro x hm; rw [lcK, lcK, hm k (by simp), ih _ (fun y hy => hm y (by simp [hy]))]
  have cr : ∀ (m : List Kid), (∀ k ∈ m, cw τ' k.1 = cw τ k.1) → crS τ' m = crS τ m := by
    intro m
    induction m with
    | nil => intro _; rfl
    | cons k m ih => intro hm; rw [crS, crS, hm k (by simp), ih (fun y hy => hm y (by simp [hy]))]
  have wr : ∀ (m : List Kid), (∀ k ∈ m, wk τ' k.1 = wk τ k.1) → wkS τ' m = wkS τ m := by
    intro m
    induction m with
    | nil => intro _; rfl
    | cons k m ih => intro hm; rw [wkS, wkS, hm k (by simp), ih (fun y hy => hm y (by simp [hy]))]
  have mx : ∀ (f f' : Int → Int) (m : List Kid) (x : Int), (∀ k ∈ m, f' k.1 = f k.1) → mxK f' x m = mxK f x m := by
    intro f f' m
    induction m with
    | nil => intro x _; rfl
    | cons k m ih => intro x hm; rw [mxK, mxK, hm k (by simp), ih _ (fun y hy => hm y (by simp [hy]))]
  have e1 := lc l 1 (fun k hk => (h k hk).1)
  have e2 := cr l (fun k hk => (h k hk).2.1)
  have e3 := wr l (fun k hk => (h k hk).2.2.2)
  have e4 := mx (cw τ) (cw τ') l 0 (fun k hk => (h k hk).2.1)
  have e5 := mx (rc τ) (rc τ') l 0 (fun k hk => (h k hk).2.2.1)
  have e6 := mx (wk τ) (wk τ') l 0 (fun k hk => (h k hk).2.2.2)
  unfold IV at hv
  have g1 : ∀ q, l = [(q, 1, 1)] → el τ' 63 q = el τ 63 q ∧ el τ' 62 q = el τ 62 q ∧ el τ' 61 q = el τ 61 q ∧ el τ' 60 q = el τ 60 q := fun q hq => h (q, 1, 1) (by rw [hq]; simp)
  have g2 : ∀ q r, l = [(q, 1, 1), (r, 1, 1)] → (el τ' 63 q = el τ 63 q ∧ el τ' 62 q = el τ 62 q ∧ el τ' 61 q = el τ 61 q ∧ el τ' 60 q = el τ 60 q) ∧ el τ' 63 r = el τ 63 r ∧ el τ' 62 r = el τ 62 r ∧ el τ' 61 r = el τ 61 r ∧ el τ' 60 r = el τ 60 r := fun q r hq => ⟨h (q, 1, 1) (by rw [hq]; simp), h (r, 1, 1) (by rw [hq]; simp)⟩
  rcases hv with ⟨rfl, -⟩ | ⟨rfl, -⟩ | ⟨rfl, -⟩ | ⟨rfl, -⟩ | ⟨rfl, -⟩ | ⟨rfl, -⟩ | ⟨rfl, -⟩ | ⟨rfl, ⟨q, hq⟩, -⟩ | ⟨rfl, ⟨q, hq⟩, -⟩ | ⟨hK, ⟨q, hq⟩, -⟩ | ⟨rfl, ⟨q, hq⟩, -⟩ | ⟨hK, -⟩ | ⟨rfl, -⟩ | ⟨rfl, -⟩ | ⟨hK, ⟨q, hq⟩, -⟩ | ⟨rfl, ⟨q, hq⟩, -⟩ | ⟨rfl, ⟨q, hq⟩, -⟩ | ⟨hK, ⟨q, hq⟩, -⟩ | ⟨hK, ⟨q, r, hq⟩⟩ | ⟨rfl, ⟨q, r, hq⟩, -⟩
  · rfl
  · rfl
  · rfl
  · show (wS l * lcK τ' 1 l, crS τ' l, mxK (rc τ') 0 l, wkS τ' l + 1) = _
    rw [e1, e2, e3, e5]; rfl
  · show (lcK τ' 1 l, crS τ' l, mxK (rc τ') 0 l, wkS τ' l + 1) = _
    rw [e1, e2, e3, e5]; rfl
  · show (lcK τ' 1 l, mxK (cw τ') 0 l, mxK (rc τ') 0 l, mxK (wk τ') 0 l + 1) = _
    rw [e1, e4, e5, e6]; rfl
  · show (a * lcK τ' 1 l, a * mxK (cw τ') 0 l, mxK (rc τ') 0 l, a * mxK (wk τ') 0 l + 1) = _
    rw [e1, e4, e5, e6]; rfl
  · obtain ⟨h1, h2, h3, h4⟩ := g1 q hq
    subst hq
    show (b * el τ' 63 q, a * el τ' 62 q, el τ' 61 q, a * el τ' 60 q + 1) = _
    rw [h1, h2, h3, h4]; rfl
  · obtain ⟨h1, h2, h3, h4⟩ := g1 q hq
    subst hq
    show (a * el τ' 63 q, tmF a b * el τ' 62 q, (el τ' 61 q * b + a - 1) / a, tmF a b * el τ' 60 q + 1) = _
    rw [h1, h2, h3, h4]; rfl
  · obtain ⟨h1, h2, h3, h4⟩ := g1 q hq
    subst hq
    have : ∀ t : St, bds t K a b c d [(q, 1, 1)] = (lcI (el t 63 q) b, (if b = 1 then 1 else 2) * el t 62 q, el t 61 q, (if b = 1 then 1 else 2) * el t 60 q + 1) := fun t => by rcases hK with rfl | rfl <;> rfl
    rw [this, this, h1, h2, h3, h4]
  · obtain ⟨h1, h2, h3, h4⟩ := g1 q hq
    subst hq
    show (el τ' 63 q, el τ' 62 q, (1 : Int), el τ' 60 q + 1) = _
    rw [h1, h2, h4]; rfl
  · have : ∀ t : St, bds t K a b c d l = (lcK t 1 l, mxK (cw t) 0 l, mxK (rc t) 0 l, mxK (wk t) 0 l + 1) := fun t => by rcases hK with rfl | rfl <;> rfl
    rw [this, this, e1, e4, e5, e6]
  · show (lcK τ' 1 l, crS τ' l, mxK (rc τ') 0 l, wkS τ' l + 1) = _
    rw [e1, e2, e3, e5]; rfl
  · show (lcK τ' 1 l, crS τ' l, mxK (rc τ') 0 l, wkS τ' l + 1) = _
    rw [e1, e2, e3, e5]; rfl
  · obtain ⟨h1, h2, h3, h4⟩ := g1 q hq
    subst hq
    rcases hK with rfl | rfl
    · show (lcI (el τ' 63 q) a, 2 * el τ' 62 q, el τ' 61 q, 2 * el τ' 60 q + 1) = _
      rw [h1, h2, h3, h4]; rfl
    · show (a * el τ' 63 q, a * el τ' 62 q * (el τ' 61 q + 1), el τ' 61 q, (el τ' 61 q + 1) * (el τ' 60 q + a * el τ' 62 q) + 1) = _
      rw [h1, h2, h3, h4]; rfl
  · obtain ⟨h1, h2, h3, h4⟩ := g1 q hq
    subst hq
    show (el τ' 63 q, el τ' 62 q, el τ' 61 q, el τ' 60 q + el τ' 62 q + 1) = _
    rw [h1, h2, h3, h4]; rfl
  · obtain ⟨h1, h2, h3, h4⟩ := g1 q hq
    subst hq
    show (lcI b (b * d / gC (c * b - a * d) (b * d) * el τ' 63 q), el τ' 62 q, el τ' 61 q, el τ' 60 q + 1) = _
    rw [h1, h2, h3, h4]; rfl
  · obtain ⟨h1, h2, h3, h4⟩ := g1 q hq
    subst hq
    have : ∀ t : St, bds t K a b c d [(q, 1, 1)] = (el t 63 q, el t 62 q, el t 61 q, el t 60 q + 1) := fun t => by rcases hK with rfl | rfl <;> rfl
    rw [this, this, h1, h2, h3, h4]
  · obtain ⟨⟨h1, h2, h3, h4⟩, k1, k2, k3, k4⟩ := g2 q r hq
    subst hq
    rcases hK with rfl | rfl
    · show (el τ' 63 q, el τ' 62 q, el τ' 61 q, el τ' 60 q + el τ' 62 q * (el τ' 61 r + 1) * el τ' 60 r + 1) = _
      rw [h1, h2, h3, h4, k3, k4]; rfl
    · show (el τ' 63 r, el τ' 62 r, el τ' 61 r, el τ' 60 r + el τ' 62 r * (el τ' 61 q + 1) * el τ' 60 q + 1) = _
      rw [h3, h4, k1, k2, k3, k4]; rfl
  · obtain ⟨⟨h1, h2, h3, h4⟩, k1, k2, k3, k4⟩ := g2 q r hq
    subst hq
    show (el τ' 63 q, el τ' 62 q, el τ' 61 q, el τ' 60 q + el τ' 62 q * (el τ' 61 r + 1) * el τ' 60 r + 1) = _
    rw [h1, h2, h3, h4, k3, k4]; rfl
theorem xs_0 {B : Int × Int × Int × Int} {D : Int} (h : xsB B D = 0) : B.1 ≤ 1000000 ∧ B.2.1 ≤ 400 ∧ B.2.2.1 ≤ 64 ∧ B.2.2.2 ≤ 50000 ∧ D ≤ 60 := by
  have h : xs B.1 B.2.1 B.2.2.1 B.2.2.2 D = 0 := h
  unfold xs at h
  split at h
  · exact absurd h (by decide)
  · split at h
    · exact absurd h (by decide)
    · split at h
      · exact absurd h (by decide)
      · split at h
        · exact absurd h (by decide)
        · split at h
          · exact absurd h (by decide)
          · omega
/-- both have the new one -/
theorem made_PR {π π' : Sh} {σ σ' τ τ' : St} {s K place a b c d cnt r A p : Int} {ops ks : List Kid} (hs : SRq π σ s K place a b c d cnt ops) (hO : OPR π σ τ ops ks) (hv : IV K a b c d ks) (hX : HX π σ π' σ') (hp : OPN τ p K a b c d ks) (hel : ∀ x j, ¬ (59 ≤ x ∧ x ≤ 63 ∧ j = p) → ¬ (x = 54 ∧ j = fl τ 68 0) → el τ' x j = el τ x j) (hx : xsB (bds τ K a b c d ks) (dpt τ ks) = 0) (hsu : sucM τ τ' p (bds τ K a b c d ks) (dpt τ ks)) (h61 : fl τ' 61 0 = fl τ 61 0) (hr : ob π' r 5) (h100 : fl σ' 100 r = s) (h101 : fl σ' 101 r = A) (hA : ob π' A 26 ∧ ln π' A = ks.length ∧ (56 ≤ A ∨ ks = [])) (hk : At (fun j (k : Kid) => PRn π σ τ (el σ' A j) k.1 ∧ ob π (el σ' A j) 5) 0 ks) (h102 : fl σ' 102 r = (bds τ K a b c d ks).1 ∧ fl σ' 103 r = (bds τ K a b c d ks).2.1 ∧ fl σ' 104 r = (bds τ K a b c d ks).2.2.1 ∧ fl σ' 105 r = (bds τ K a b c d ks).2.2.2 ∧ fl σ' 106 r = dpt τ ks) (hlt : ∀ k ∈ ks, k.1 < p) : TX τ τ' ∧ PRn π' σ' τ' r p := by
  obtain ⟨p1, ⟨p2, p2'⟩, ⟨e70, e69, e68, e67, e66⟩, ⟨k1, k2, k3, k4⟩, k5, k6⟩ := hp
  obtain ⟨u1, u2, u3, u4, u5, u6, v1, v2, v3, v4, v5⟩ := hsu
  obtain ⟨s1, s2, s3, s4, s5, s6, s7⟩ := id hs
  have kok : ∀ k ∈ ks, KOK τ k := At.all (P := fun x => KOK τ x) (fun _ _ hq => hq.2) k6
  obtain ⟨n1, ⟨n2, -⟩, ⟨n3, -⟩, ⟨n4, -⟩, n5⟩ := bds_nn hv kok k5
  obtain ⟨d1, d2, d3⟩ := dpt_b kok
  obtain ⟨x1, x2, x3, x4, x5⟩ := xs_0 hx
  have tX : TX τ τ' := ⟨by omega, by omega, fun x j hx1 hx2 hj => hel x j (by omega) (by omega), fun x j hx1 _ => hel x j (by omega) (by omega)⟩
  have le : ∀ x, 64 ≤ x → el τ' x p = el τ x p := fun x hx1 => hel x p (by omega) (by omega)
  have kv : ∀ k ∈ ks, gr τ' k.1 = gr τ k.1 ∧ cw τ' k.1 = cw τ k.1 ∧ rc τ' k.1 = rc τ k.1 ∧ wk τ' k.1 = wk τ k.1 ∧ el τ' 59 k.1 = el τ 59 k.1 := fun k hk' => by
    have := hlt k hk'
    exact ⟨hel 63 _ (by omega) (by omega), hel 62 _ (by omega) (by omega), hel 61 _ (by omega) (by omega), hel 60 _ (by omega) (by omega), hel 59 _ (by omega) (by omega)⟩
  have kok' : ∀ k ∈ ks, KOK τ' k := fun k hk' => by
    obtain ⟨w1, w2, w3, w4, w5⟩ := kv k hk'
    have := kok k hk'
    unfold KOK rng at this ⊢
    rw [w1, w2, w3, w4, w5]
    exact this
  have hB : bds τ' K a b c d ks = bds τ K a b c d ks := bds_cg hv (fun k hk' => ⟨(kv k hk').1, (kv k hk').2.1, (kv k hk').2.2.1, (kv k hk').2.2.2.1⟩)
  have k6' : At (KT τ') (el τ' 65 p) ks := by
    rw [le 65 (by decide)]
    refine k6.mono (fun i k _ _ hk' hq => ⟨?_, kok' k hk'⟩)
    rw [hel 58 i (by omega) (by omega), hel 57 i (by omega) (by omega)]
    exact hq.1
  have hkl : kl τ' p = ks := by
    unfold kl
    rw [le 64 (by decide), k2, show ((ks.length : Int)).toNat = ks.length by omega]
    exact kl_of ks _ k6'
  have nk : NK τ' p := mk_NK hv kok' hkl (by rw [le 64 (by decide)]; exact k2) k5 (by rw [le 70 (by decide)]; exact e70) (by rw [le 69 (by decide)]; exact e69) (by rw [le 68 (by decide)]; exact e68) (by rw [le 67 (by decide)]; exact e67) (by rw [le 66 (by decide)]; exact e66) (by rw [hB]; exact Prod.ext v1 (Prod.ext v2 (Prod.ext v3 v4)))
  obtain ⟨m, hm⟩ : ∃ m : Nat, (dpt τ ks).toNat = m + 1 := ⟨(dpt τ ks).toNat - 1, by omega⟩
  -- kids
  have kd' : ∀ i : Int, 0 ≤ i → i < ks.length → ∃ k ∈ ks, kd τ' p i = k.1 ∧ PRn π σ τ (el σ' A i) k.1 ∧ ob π (el σ' A i) 5 := fun i i0 i1 => by
    have k7 : At (fun j (k : Kid) => el τ' 58 (el τ 65 p + j) = k.1) 0 ks := by
      refine At.sh (s := el τ 65 p) (Q := KT τ) (fun j k _ _ hq => ?_) (by rw [Int.zero_add]; exact k6)
      rw [Int.add_comm, hel 58 _ (by omega) (by omega)]
      exact hq.1.1
    obtain ⟨k, hk1, hk2, hk3, hk4⟩ := At.both k7 hk i i0 (by omega)
    refine ⟨k, hk1, ?_, hk3, hk4⟩
    show el τ' 58 (el τ' 65 p + i) = k.1
    rw [le 65 (by decide)]
    exact hk2
  have kt : ∀ i : Int, 0 ≤ i → i < ks.length → TN τ' m (kd τ' p i) ∧ CN π' σ' τ' m (el σ' A i) (kd τ' p i) := fun i i0 i1 => by
    obtain ⟨k, hk1, hk2, hk3, hk4⟩ := kd' i i0 i1
    rw [hk2]
    rcases hk3 with hk3 | ⟨t1, t2, t3, t4⟩
    · have := hk4.1
      omega
    · have := d3 k hk1
      have e : (el τ 59 k.1).toNat + (m - (el τ 59 k.1).toNat) = m := by omega
      have a1 := (tn_grow tX t1).le (m - (el τ 59 k.1).toNat)
      have a2 := (CN.growP hX.hp tX t1 t2).le (m - (el τ 59 k.1).toNat)
      rw [e] at a1 a2
      exact ⟨a1, a2⟩
  refine ⟨tX, Or.inr ⟨?_, ?_, by omega, by omega⟩⟩
  · rw [v5, hm]
    refine ⟨⟨p2, by omega, p2'⟩, ⟨⟨by show 1 ≤ el τ' 63 p; omega, by show el τ' 63 p ≤ _; omega⟩, ⟨by show 0 ≤ el τ' 62 p; omega, by show el τ' 62 p ≤ _; omega⟩, ⟨by show 1 ≤ el τ' 61 p; omega, by show el τ' 61 p ≤ _; omega⟩, ⟨by show 1 ≤ el τ' 60 p; omega, by show el τ' 60 p ≤ _; omega⟩, by show el τ' 62 p ≤ el τ' 60 p; omega⟩, ?_, fun i i0 i1 => ?_, nk⟩
    · rw [le 65 (by decide), le 64 (by decide)]
      exact ⟨k1, by omega, by omega, k3⟩
    · rw [le 64 (by decide)] at i1
      exact (kt i i0 (by omega)).1
  · rw [v5, hm]
    have sl := s1.2.1
    have f : ∀ g : Nat, 200 ≤ g → g < 220 → fl σ' g s = fl σ g s := fun g h1 h2 => hX.2.1 g s (by unfold inF; omega) (by omega) sl
    obtain ⟨y1, y2, y3, y4, y5⟩ := h102
    refine ⟨hr, ⟨by rw [y1]; exact v1.symm, by rw [y2]; exact v2.symm, by rw [y3]; exact v3.symm, by rw [y4]; exact v4.symm, by rw [y5]; exact v5.symm⟩, by rw [h100]; exact s1.ext hX.1, ?_, fun i i0 i1 => ?_, ?_⟩
    · rw [h101, le 64 (by decide)]
      refine ⟨hA.1, by rw [hA.2.1, k2], ?_⟩
      rcases hA.2.2 with h | h
      · exact Or.inl h
      · right
        rw [k2, h]
        rfl
    · rw [le 64 (by decide)] at i1
      rw [h101]
      exact (kt i i0 (by omega)).2
    · rw [h100]
      obtain ⟨z1, z2, z3, z4, z5, z6, z7, -⟩ := s2.cg hO
      unfold CK
      rw [f 200 (by decide) (by decide), f 207 (by decide) (by decide), f 202 (by decide) (by decide), f 203 (by decide) (by decide), f 204 (by decide) (by decide), f 205 (by decide) (by decide), le 70 (by decide), le 69 (by decide), le 68 (by decide), le 67 (by decide), le 66 (by decide), e70, e69, e68, e67, e66, hkl]
      refine ⟨z1, z2, z3, z4, z5, z6, fun hc => ?_⟩
      obtain ⟨⟨w1, w2, w3⟩, ⟨w4, w5, w6, w7⟩, ⟨w8, w9, w10⟩, w11, w12⟩ := z7 hc
      unfold WA
      rw [f 211 (by decide) (by decide), f 212 (by decide) (by decide), f 213 (by decide) (by decide), (hX.1.2.2 _ w1.2.1).2, (hX.1.2.2 _ w4.2.1).2, (hX.1.2.2 _ w8.2.1).2, le 64 (by decide), k2, hkl]
      refine ⟨⟨w1.ext hX.1, by omega, w3⟩, ⟨w4.ext hX.1, by omega, w6⟩, ⟨w8.ext hX.1, by omega, w10⟩, fun i i0 i1 => ?_⟩
      have k7 : At (fun j (k : Kid) => el τ' 57 (el τ 65 p + j) = k.2.1 + 32 * k.2.2) 0 ks := by
        refine At.sh (s := el τ 65 p) (Q := KT τ) (fun j k _ _ hq => ?_) (by rw [Int.zero_add]; exact k6)
        rw [Int.add_comm, hel 57 _ (by omega) (by omega)]
        exact hq.1.2.1
      obtain ⟨k, hk1, hk2, hk3, hk4⟩ := At.both k7 w11 i i0 (by omega)
      obtain ⟨-, -, ⟨o1, o2⟩, ⟨o3, o4⟩⟩ := kok k hk1
      rw [hX.2.2.1 _ _ (Or.inl w3) w1.2.1 (by rw [w1.2.2]; decide), hX.2.2.1 _ _ (Or.inl w6) w4.2.1 (by rw [w4.2.2]; decide), hX.2.2.1 _ _ (Or.inl w10) w8.2.1 (by rw [w8.2.2]; decide), le 65 (by decide), hk2, hk3, hk4]
      exact ⟨by omega, by omega, w12 i i0 (by omega)⟩
