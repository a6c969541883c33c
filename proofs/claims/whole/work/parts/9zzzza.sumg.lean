/-! sums: the loop, both -/
section SW
variable {N : Nat} {b : Bse} {Xo : Int → Prop} {dl : List (Int × Int)} {rA rF : Sh → St → Option (Sh × St × Int)}
set_option maxHeartbeats 4000000 in
/-- a fault in a term -/
theorem sum_fl {c op d r s t' t1 tm acc place sg i : Int} {L0 : List Stq} {Kn0 kn : List Int} {π0 π π2 : Sh} {σ0 τ0 σ τ σ2 τ2 : St} {seg : List Stq} {k T t n : Nat} {o : Int} (hc : CTX b dl) (h0 : XEs b Xo π0 σ0 τ0 L0 Kn0) (hB0 : PRE τ0 L0 Kn0) (hop : fl τ0 13 0 = op) (h : SMA N b dl Xo c op d r s t' t1 tm acc place sg L0 Kn0 π0 σ0 τ0 π σ τ seg kn k T) (hn : 1 ≤ n) (hi : 0 ≤ i ∧ i < 2900) (e : EFt (bX b) (bY b) π σ π2 σ2) (rd : RDr (fl τ 16 0) (d + 1) τ τ2) (hf : EXf b (XR Xo σ s) (L0 ++ seg) (Kn0 ++ kn) 1 π σ τ π2 σ2 τ2 t) : ∃ π5 σ5 π6 σ6 acc', Sp_give N π2 σ2 s o = some (π5, σ5, s) ∧ ob π2 s 10 ∧ Df_add N π5 σ5 (fl σ5 144 44) s = some (π6, σ6, acc') ∧ ob π5 (fl σ5 144 44) 1 ∧ Rd_sum_7 N rA rF n π6 σ6 acc' i = some (π6, σ6, acc') ∧ EXo N b dl Xo L0 Kn0 d (c + 2) 2 π0 σ0 τ0 π6 σ6 τ2 acc' (T + t) := by
  obtain ⟨a1, a2, a3, a4, a5, a6, a7, a8, a9, a10, a11, a12, a13, a14, b1, b2, b3, b4, b5, b6, b7⟩ := h
  obtain ⟨f1, f2, f3⟩ := hf
  obtain ⟨g1, g2⟩ := a2.ef hc a1 e
  have xr : XR Xo σ2 s = XR Xo σ s := XR.eq (fun f _ _ => g2 f)
  have x2 := e.x hc a1
  have l0 := h0.2.1.lf
  have l1 := a1.2.1.lf
  have n01 := a3.1.1
  have n12 := e.1.1
  have nb := h0.2.2.2.2.2.2.1.1.1
  have opb := h0.2.2.2.1
  rw [a7, List.length_append, List.length_append] at f1
  rw [a7] at f2
  obtain ⟨n', rfl⟩ : ∃ n', n = n' + 1 := ⟨n - 1, by omega⟩
  have hX : ∀ x, Xo x → x < nn π0 := fun x hx => (h0.2.2.2.2.2.1.2.2.2.2.2.2.2.1 x hx).2
  rw [← xr] at f1
  unfold PRE at hB0
  have lx0 := h0.lt hc
  have fz := f1.f
  have lt2 := f1.lt x2
  obtain ⟨y1, ⟨τt, y2⟩, y3, y4, L, Kn, y5, y6, y7⟩ := id f1
  obtain ⟨⟨n1, n2, n3⟩, n4, n5⟩ := g1.ns hc (by omega)
  have n56 := y1.1
  obtain ⟨π5, σ5, c1, c2, c3, c4, c5, c6⟩ := g1.give (N := N) (o := o) y5 (by omega) n56 (by simp)
  have h44 : fl σ5 144 44 = bD b := by rw [c6 144 44 (by omega)]; exact y4
  obtain ⟨π6, σ6, d1, d2, d3, d4, d5, d6⟩ := c3.add (N := N) c4 (by simp) hX (by omega) (by omega)
  have x5 : fl σ5 23 (bD b) = bX b := by rw [c6 23 _ (by omega)]; exact x2.1
  rw [x5] at d3 d6
  have k51 : fl σ5 1 (bX b) = fl σ2 1 (bX b) ∧ fl σ5 1 (bY b) = fl σ2 1 (bY b) := ⟨c6 1 _ (by omega), c6 1 _ (by omega)⟩
  have e05 : EFt (bX b) (bY b) π0 σ0 π5 σ5 := (a3.tr e).own c2 k51
  have lt5 : bY b < nn π5 ∧ bX b < nn π5 := by omega
  have e06 : EFt (bX b) (bY b) π0 σ0 π6 σ6 := e05.tr (EFt.lx d3 ⟨lt5.1, fun w => lx0.1.2.2.2.2 w.symm⟩)
  have cy6 : cpc π6 σ6 (bY b) = cpc π2 σ2 (bY b) := by
    have w1 : cpc π5 σ5 (bY b) = cpc π2 σ2 (bY b) := cpc_eq k51.2 c2.1 lt2.2
    have w2 : cpc π6 σ6 (bY b) = cpc π5 σ5 (bY b) := cpc_eq (d3.2.1 1 _ lt5.1 (by omega)) d3.1 (by rw [k51.2]; omega)
    omega
  have cx5 : cpc π5 σ5 (bX b) = cpc π2 σ2 (bX b) := cpc_eq k51.1 c2.1 lt2.1
  have b6' := hc.2.2.1
  have s1 : ∀ f : Nat, fl σ6 f 1 = fl σ2 f 1 := fun f => by rw [d3.2.1 f 1 (by omega) (by omega), c6 f 1 (by omega)]
  have ar : fl σ5 1 (bX b) < 0 ∨ 56 ≤ fl σ5 1 (bX b) := by have := c4.2.1.a56; rw [x5] at this; exact this
  have q6 : XQ b Xo π6 σ6 τ2 (((L0.length + seg.length : Nat) : Int) + 2 * lf τ + 4 * (20 - op) + 1 + 1) (((Kn0.length + kn.length : Nat) : Int) + lf τ) := by
    refine ⟨y1.ext (c2.1.tr d3.1), ⟨τt, y2.cg (fun f _ => s1 f) (fun j => ?_) (fun _ _ => rfl) (fun _ => rfl)⟩, ⟨by rw [s1]; exact y3.1, by rw [s1]; exact y3.2.1, y3.2.2⟩, ?_, _, Kn, d4, by rw [List.length_append]; simp; omega, by omega⟩
    · rw [d3.2.2.1 2 j (by omega) (by omega), c2.2.2 2 j (by omega)]
    · rw [d3.2.1 144 44 (by omega) (by omega)]; exact h44
  refine ⟨π5, σ5, π6, σ6, _, c1, g1.1.1, by rw [h44]; exact d1, by rw [h44]; exact d2, sm_stop ⟨hi.1, by omega⟩ (by rw [s1]; exact fz.2) (fun w => absurd (by rw [s1] at w; exact w) fz.1), e06, a4.tr rd (by omega) (by omega), Or.inl ⟨q6.mono (by push_cast; omega) (by push_cast; omega), ⟨?_, ?_⟩, by push_cast; omega⟩⟩
  · have := f2.1
    omega
  · have w := f2.2
    omega
set_option maxHeartbeats 4000000 in
/-- a term is read: it is joined to what stands -/
theorem sum_ok {c op d r s t' t1 tm acc place sg : Int} {L0 : List Stq} {Kn0 kn : List Int} {π0 π π2 : Sh} {σ0 τ0 σ τ σ2 τ2 : St} {seg : List Stq} {k T t : Nat} {o : Int} (hN : 30000001 ≤ N) (hc : CTX b dl) (h0 : XEs b Xo π0 σ0 τ0 L0 Kn0) (hB0 : PRE τ0 L0 Kn0) (hop : fl τ0 13 0 = op) (hcs : 0 ≤ c) (hd : 0 ≤ d ∧ d < 500) (h : SMA N b dl Xo c op d r s t' t1 tm acc place sg L0 Kn0 π0 σ0 τ0 π σ τ seg kn k T) (e : EFt (bX b) (bY b) π σ π2 σ2) (rd : RDr (fl τ 16 0) (d + 1) τ τ2) (hf : EXk N b dl (XR Xo σ s) (L0 ++ seg) (Kn0 ++ kn) (d + 1) c 1 π σ τ π2 σ2 τ2 o t) : ∃ π5 σ5 π6 σ6 acc' τa seg' kn' k', Sp_give N π2 σ2 s o = some (π5, σ5, s) ∧ ob π2 s 10 ∧ Df_add N π5 σ5 (fl σ5 144 44) s = some (π6, σ6, acc') ∧ ob π5 (fl σ5 144 44) 1 ∧ (∀ g : Nat, fl σ6 g 1 = fl σ2 g 1) ∧ (fl τ2 41 0 = d + 1 ∧ fl τ2 11 0 = 0 ∧ el τ2 74 d = 3) ∧ TKr σ2 τ2 ∧ lf τ2 + 1 ≤ lf τ ∧ rdK N 3 τ2 d = r_readSum_116 N τa d (if isOpB (fl σ2 185 1) then 1 else 0) ∧ lf τa = lf τ2 ∧ XEs b Xo π6 σ6 τa (L0 ++ seg') (Kn0 ++ kn') ∧ fl τa 13 0 = op ∧ EFt (bX b) (bY b) π0 σ0 π6 σ6 ∧ RDr (fl τ0 16 0) d τ0 τa ∧ SMC N b τa (fl τ0 16 0) d r t1 t' acc' (Kn0 ++ kn') L0.length seg' (smW c op τ0 τa) (smZ c op τ0 τa) k' ∧ (∀ y ∈ seg', y.1 = 99 → Uoe dl b y) ∧ (k' : Int) + 9 + 12 * lf τa ≤ 12 * lf τ0 ∧ fl τa 16 0 + 3 * lf τa ≤ fl τ0 16 0 + 3 * lf τ0 ∧ (seg'.length : Int) + 2 * lf τa + 1 ≤ 2 * lf τ0 ∧ (kn'.length : Int) + lf τa ≤ lf τ0 ∧ ((T + t : Nat) : Int) + 36 + 20 * lf τa ≤ 20 * lf τ0 ∧ (nn π6 : Int) + 7 ≤ nn π0 + 12 * (lf τ0 - lf τa) ∧ (sw π6 : Int) + 4 * cpc π0 σ0 (bX b) + 4 * cpc π0 σ0 (bY b) + 80 ≤ sw π0 + 4 * cpc π6 σ6 (bX b) + 4 * cpc π6 σ6 (bY b) + 150 * (lf τ0 - lf τa) := by
  obtain ⟨a1, a2, a3, a4, a5, a6, a7, a8, a9, a10, a11, a12, a13, a14, b1, b2, b3, b4, b5, b6, b7⟩ := h
  obtain ⟨seg1, kn2, n, w, z, k1, g1, ⟨g2, g3, g4⟩, g5, g6, g7, g8, ⟨⟨m1, m2⟩, ⟨m3, m4⟩, m5, m6, m7, m8⟩, ⟨g9, g10⟩, g11⟩ := hf
  obtain ⟨p1, p2⟩ := a2.ef hc a1 e
  have xr : XR Xo σ2 s = XR Xo σ s := XR.eq (fun f _ _ => p2 f)
  have l0 := h0.2.1.lf
  have l1 := a1.2.1.lf
  have l2 := g1.2.1.lf
  have n01 := a3.1.1
  have n12 := e.1.1
  have nb := h0.2.2.2.2.2.2.1.1.1
  have opb := h0.2.2.2.1
  rw [a7] at m2 m4
  unfold PRE at hB0
  rw [← xr] at g1
  have lx0 := h0.lt hc
  have lx2 := g1.lt hc
  have x2 := g1.x hc
  have tk2 := g1.2.1
  have v16 := h0.2.2.2.2.2.2.2.2.1
  have bv : 0 ≤ bV b := by obtain ⟨-, -, -, -, -, -, -, -, -, q⟩ := hc; exact q
  have hP : bP b ≤ 4 := by obtain ⟨-, -, -, -, ⟨q, -⟩, -⟩ := hc; exact q.2
  have hX : ∀ x, Xo x → x < nn π0 := fun x hx => (h0.2.2.2.2.2.1.2.2.2.2.2.2.2.1 x hx).2
  obtain ⟨⟨n1, n2, n3⟩, n4, n5⟩ := p1.ns hc (by omega)
  obtain ⟨π5, σ5, c1, c2, c3, c4, c5, c6⟩ := XEs.go (N := N) (o := o) hc g1 p1 ⟨by omega, by omega⟩ (by simp)
  have h44 : fl σ5 144 44 = bD b := c4.2.2.2.2.1
  have n56 := c4.1.1
  obtain ⟨π6, σ6, d1, d2, d3, d4, d5, d6⟩ := c3.add (N := N) c4.2.2.2.2.2.1 (by simp) hX (by rw [List.length_append, List.length_append]; omega) n56
  have x5 := c4.x hc
  rw [x5.1] at d3 d6
  have lx5 := c4.lt hc
  have e5 : EFt (bX b) (bY b) π5 σ5 π6 σ6 := EFt.lx d3 ⟨lx5.1.2.2.2.1, fun w => lx5.1.2.2.2.2 w.symm⟩
  have k51 : fl σ5 1 (bX b) = fl σ2 1 (bX b) ∧ fl σ5 1 (bY b) = fl σ2 1 (bY b) := ⟨c6 1 _ (by omega), c6 1 _ (by omega)⟩
  have e06 : EFt (bX b) (bY b) π0 σ0 π6 σ6 := ((a3.tr e).own c2 k51).tr e5
  have s1 : ∀ f : Nat, fl σ6 f 1 = fl σ2 f 1 := fun f => by rw [d3.2.1 f 1 (by omega) (by omega), c6 f 1 (by omega)]
  have x6 := c4.cl hc (X' := Xo) e5 (fun g => d3.2.1 g 1 (by omega) (by omega)) d4 h0.2.2.2.2.2.2.2.2.2
  have cy6 : cpc π6 σ6 (bY b) = cpc π2 σ2 (bY b) := by
    have w1 : cpc π5 σ5 (bY b) = cpc π2 σ2 (bY b) := cpc_eq k51.2 c2.1 lx2.2.1.2
    have w2 : cpc π6 σ6 (bY b) = cpc π5 σ5 (bY b) := cpc_eq (d3.2.1 1 _ lx5.1.2.2.2.1 (by omega)) d3.1 lx5.2.1.2
    omega
  have cx5 : cpc π5 σ5 (bX b) = cpc π2 σ2 (bX b) := cpc_eq k51.1 c2.1 lx2.2.1.1
  -- the reference
  have tb : ∀ a i : Int, 84 ≤ a → a ≤ 94 → i < fl τ 16 0 → el τ2 a i = el τ a i := fun a i x1 x2 x3 => rd.2.2.1 a i x1 x2 x3
  have fr : ∀ a : Int, 71 ≤ a → a ≤ 74 → el τ2 a d = el τ a d := fun a x1 x2 => rd.2.2.2 a d x1 x2 (by omega)
  have t16 := a9.1
  have r87 : el τ2 87 t' = -1 := by rw [tb 87 t' (by omega) (by omega) (by omega)]; exact a10.2.2.1
  have r86 : el τ2 86 r = t' := by rw [tb 86 r (by omega) (by omega) (by omega)]; exact a12.2.2
  obtain ⟨τa, hτa⟩ : ∃ τa, τa = apN τ2 t' n := ⟨_, rfl⟩
  have apc : r_append N τ2 t' n = some τa := by
    rw [hτa]
    exact r_append' ⟨by omega, by omega⟩ ⟨by omega, by omega⟩ (Or.inl r87) (by rw [r87]; decide)
  have ea : ∀ a i : Int, ¬ (a = 85 ∧ i = n) → ¬ ((a = 86 ∨ a = 87) ∧ i = t') → el τa a i = el τ2 a i := fun a i z1 z2 => by
    rw [hτa]
    unfold apN
    rw [if_pos r87, el_se, if_neg z1, el_se, if_neg (by omega), el_se, if_neg (by omega)]
  have ea87 : el τa 87 t' = n := by
    rw [hτa]
    unfold apN
    rw [if_pos r87, el_sen _ _ _ _ (by decide), el_sen _ _ _ _ (by decide), el_ses]
  have fa : ∀ g : Nat, fl τa g 0 = fl τ2 g 0 := fun g => by rw [hτa, apN_fl]
  have rda : RDr (fl τ0 16 0) d τ2 τa := by
    rw [hτa]
    exact apN_rd (RDr.rf _ _ _) ⟨by omega, by omega, Or.inl r87⟩
  have lfa : lf τa = lf τ2 := by unfold lf; rw [fa, fa]
  have turn : rdK N 3 τ2 d = r_readSum_116 N τa d (if isOpB (fl σ2 185 1) then 1 else 0) := by
    show r_readSum N τ2 d = _
    rw [r_readSum, grd_t (by exact ⟨hd.1, by omega⟩), fr 72 (by omega) (by omega), a5.2.2.1, grd_t (by decide), if_neg (by decide), tk2.op.1, Option.bind_some]
    simp only
    rw [fr 73 (by omega) (by omega), a5.2.2.2, grd_t (by exact ⟨by omega, by omega⟩), if_neg (by omega), grd_t (by exact ⟨by omega, by omega⟩), r86, g3, apc, Option.bind_some]
  have la : ((L0 ++ seg) ++ seg1) ++ [(25, place, sg, 0, 0, 0, 0, [(acc, 1, 1)] ++ [(o, 1, 1)])] = L0 ++ (seg ++ (seg1 ++ [((25 : Int), place, sg, (0 : Int), (0 : Int), (0 : Int), (0 : Int), [(acc, (1 : Int), (1 : Int)), (o, (1 : Int), (1 : Int))])])) := by
    rw [List.append_assoc, List.append_assoc]; rfl
  have ka : (Kn0 ++ kn) ++ kn2 = Kn0 ++ (kn ++ kn2) := List.append_assoc _ _ _
  rw [la, ka] at x6
  have xa := x6.rt hc rda (by omega) hd.1 (by rw [fa]; omega) (fun g _ => fa g)
  have lj : ((L0 ++ seg).length : Int) = L0.length + seg.length := by rw [List.length_append]; omega
  have sgb := a11
  unfold isOpB at sgb
  have o1 : OCt N b τa (fl τ0 16 0) t' r ((Kn0 ++ kn) ++ kn2) L0.length seg t1 tm acc (smW c op τ0 τa) (smZ c op τ0 τa) k := a8.cg (fun a i z1 z2 z3 z4 z5 z6 => by rw [ea a i (by omega) (by omega), tb a i (by omega) z2 (by omega)]) (List.prefix_append _ _) (by unfold smW smZ; rw [lfa]; omega)
  have exq : EXq N b τa (t' + 1) (fl τ2 16 0) ((Kn0 ++ kn) ++ kn2) (L0.length + seg.length) seg1 n o w z k1 := by
    rw [← lj, ← t16]
    exact g7.cg (fun a i z1 z2 z3 z4 z5 => ea a i z5 (by omega)) (List.prefix_refl _) ⟨Int.le_refl _, Int.le_refl _⟩ ⟨Int.le_refl _, Int.le_refl _, Nat.le_refl _⟩
  have o2 := OCt.snoc (hi' := fl τ2 16 0) (t := t') (m := n) (s := sg) (place := place) (o := o) hN hP o1 ⟨by omega, by omega, by omega⟩ (by rw [ea 85 tm (by omega) (by omega), tb 85 tm (by omega) (by omega) (by omega)]; exact a9.2) ⟨by omega, by omega, Int.le_refl _, by omega, by omega⟩ ⟨by rw [ea 92 t' (by omega) (by omega), tb 92 t' (by omega) (by omega) (by omega)]; exact a10.2.1, by omega, ⟨by omega, by omega⟩⟩ (by rw [ea 93 t' (by omega) (by omega), tb 93 t' (by omega) (by omega) (by omega)]; exact a10.1) ea87 exq ⟨by omega, by omega, by omega, by omega, by omega, by omega⟩ ⟨m1, m3, by unfold smW; rw [lfa]; omega, by unfold smZ; rw [lfa]; omega⟩
  have acce : bP b + (((L0 ++ seg) ++ seg1).length : Int) = bP b + ((L0.length : Int) + seg.length + seg1.length) := by rw [List.length_append, List.length_append]; push_cast; omega
  rw [acce] at d1
  rw [ka] at o2
  refine ⟨π5, σ5, π6, σ6, _, τa, _, kn ++ kn2, _, c1, p1.1.1, by rw [h44]; exact d1, by rw [h44]; exact d2, s1, ⟨g2, g1.2.2.1.2, by rw [fr 74 (by omega) (by omega)]; exact a5.2.1⟩, tk2, m7, turn, lfa, xa, by rw [fa, g4]; exact a7, e06, (a4.tr rd (by omega) (by omega)).tr rda (Int.le_refl _) (Int.le_refl _), ⟨by rw [fa]; exact o2, ⟨?_, ?_, ?_⟩, ?_, by rw [fa]; omega, by rw [fa]; omega, by rw [fa]; omega, ?_, ?_, ?_, ?_⟩, ?_, ?_, ?_, ?_, ?_, ?_, ?_, ?_⟩
  · rw [ea 94 r (by omega) (by omega), tb 94 r (by omega) (by omega) (by omega)]; exact a12.1
  · rw [ea 87 r (by omega) (by omega), tb 87 r (by omega) (by omega) (by omega)]; exact a12.2.1
  · rw [ea 86 r (by omega) (by omega)]; exact r86
  · rw [ea 85 t' (by omega) (by omega), tb 85 t' (by omega) (by omega) (by omega)]; exact a10.2.2.2
  · rw [ea 73 d (by omega) (by omega), fr 73 (by omega) (by omega)]; exact a5.2.2.2
  · rw [fa]; exact g2
  · rw [ea 74 d (by omega) (by omega), fr 74 (by omega) (by omega)]; exact a5.2.1
  · rw [ea 72 d (by omega) (by omega), fr 72 (by omega) (by omega)]; exact a5.2.2.1
  · intro y hy h9
    rcases List.mem_append.1 hy with q | q
    · exact a14 y q h9
    · rcases List.mem_append.1 q with q | q
      · exact g8 y q h9
      · have : y = ((25 : Int), place, sg, (0 : Int), (0 : Int), (0 : Int), (0 : Int), [(acc, (1 : Int), (1 : Int)), (o, (1 : Int), (1 : Int))]) := by simpa using q
        rw [this] at h9
        exact absurd (show (25 : Int) = 99 from h9) (by decide)
  · rw [lfa]; push_cast; omega
  · rw [lfa, fa]; omega
  · rw [lfa, List.length_append, List.length_append]; simp only [List.length_singleton]; push_cast; omega
  · rw [lfa, List.length_append]; push_cast; omega
  · rw [lfa]; push_cast; omega
  · rw [lfa]; have := g11.1; omega
  · rw [lfa]; have := g11.2; omega
end SW
