/-! sums: the step in the making -/
section SU
variable {N : Nat} {b : Bse} {Xo : Int → Prop} {dl : List (Int × Int)}
def OST (π : Sh) (σ : St) (n0 s place sg : Int) (ops : List Kid) : Prop := OPs π σ n0 s ops ∧ FSp σ s 21 place sg 0 0 0 0 0 (-1) ∧ (fl σ 211 s = -1 ∧ fl σ 212 s = -1 ∧ fl σ 213 s = -1) ∧ ln π (fl σ 210 s) = 2 ∧ 56 ≤ n0
theorem OST.ef {X : Int → Prop} {n0 s place sg : Int} {π π' : Sh} {σ σ' τ : St} {ops : List Kid} {L : List Stq} {Kn : List Int} (hc : CTX b dl) (hx : XEs b X π σ τ L Kn) (h : OST π σ n0 s place sg ops) (he : EFt (bX b) (bY b) π σ π' σ') : OST π' σ' n0 s place sg ops ∧ ∀ f : Nat, fl σ' f s = fl σ f s := by
  obtain ⟨q1, q2, q3, q4, q5⟩ := h
  have e := hx.x hc
  have bd := hx.2.2.2.2.2.1
  have ox := bd.2.1.1.1
  have oy := bd.2.2.1.1.1
  rw [e.1] at ox
  rw [e.2] at oy
  have ns : s ≠ bX b ∧ s ≠ bY b := ⟨fun w => by have t := ox.2.2; rw [← w, q1.1.2.2] at t; exact absurd t (by decide), fun w => by have t := oy.2.2; rw [← w, q1.1.2.2] at t; exact absurd t (by decide)⟩
  have s0 := q1.2.1
  have hf : ∀ f : Nat, fl σ' f s = fl σ f s := fun f => he.2.1 f s q1.1.2.1 (by omega) (by omega) (by omega) (by omega)
  have ar1 := bd.2.1.ar
  have ar2 := bd.2.2.1.ar
  rw [e.1] at ar1
  rw [e.2] at ar2
  have na : ∀ a, ob π a 22 → a ≠ fl σ 1 (bX b) ∧ a ≠ fl σ 1 (bY b) := fun a ho => by
    constructor
    · intro w
      rcases ar1 with q | q
      · rw [← w] at q; have := ho.1; omega
      · rw [← w] at q; have t := q.2.2; rw [ho.2.2] at t; exact absurd t (by decide)
    · intro w
      rcases ar2 with q | q
      · rw [← w] at q; have := ho.1; omega
      · rw [← w] at q; have t := q.2.2; rw [ho.2.2] at t; exact absurd t (by decide)
  have o210 := q1.2.2.2.1
  refine ⟨⟨q1.cg he.1 (fun f _ => hf f) (fun j => he.2.2.1 _ j o210.2.1 (na _ o210).1 (na _ o210).2), ?_, by rw [hf, hf, hf]; exact q3, by rw [hf, (he.1.2.2 _ o210.2.1).2]; exact q4, q5⟩, hf⟩
  unfold FSp
  rw [hf, hf, hf, hf, hf, hf, hf, hf, hf]
  exact q2
theorem OST.ns {n0 s place sg : Int} {π : Sh} {σ : St} {ops : List Kid} (h : OST π σ n0 s place sg ops) (hc : CTX b dl) (hn : nn b.1 ≤ n0) : (s ≠ bX b ∧ s ≠ bY b ∧ s ≠ bD b) ∧ 56 ≤ s ∧ n0 ≤ s := by
  have := h.1.2.1
  have := h.2.2.2.2
  have c3 := hc.2.2.1
  have c2 := hc.2.1
  exact ⟨⟨by omega, by omega, by omega⟩, by omega, by omega⟩
/-- an operand is given -/
theorem OST.give {n0 s place sg o : Int} {π : Sh} {σ τ : St} {L : List Stq} {Kn : List Int} {ops : List Kid} {D P : Int} (h : OST π σ n0 s place sg ops) (hb : BDy (XR Xo σ s) π σ τ D P L Kn) (hn : n0 ≤ nn π) (h56 : 56 ≤ nn π) (hl : ops.length < 2) : ∃ π' σ', Sp_give N π σ s o = some (π', σ', s) ∧ FRn n0 π σ π' σ' ∧ OST π' σ' n0 s place sg (ops ++ [(o, 1, 1)]) ∧ BDy (XR Xo σ' s) π' σ' τ D P L Kn ∧ (nn π' = nn π ∧ sw π' = sw π) ∧ (∀ (f : Nat) (i : Int), i ≠ s → fl σ' f i = fl σ f i) := by
  obtain ⟨h1, h2, h3, h4, h6⟩ := h
  obtain ⟨π', σ', g1, g2, g3, g4, g5, g6, g7, g8⟩ := c_give (N := N) (o := o) h1 hn (by omega) (1, 1)
  obtain ⟨π'', σ'', k1, k2, k3, k4, k5, k6, k7, k8⟩ := c_give1 (N := N) (p := o) h1 h2 h3 hn (by omega)
  have e := Option.some.inj (g1.symm.trans k1)
  have e1 : π' = π'' := congrArg (fun x => x.1) e
  have e2 : σ' = σ'' := congrArg (fun x => x.2.1) e
  subst e1
  subst e2
  have k7' := k7 hl (by omega)
  have sn := h1.2.1
  have sl := h1.1.2.1
  have nge := g2.1.1
  refine ⟨π', σ', g1, g2, ⟨k3, k4, k5, by rw [k7'.2.2]; exact h4, h6⟩, ?_, ⟨k7'.1, k7'.2.1⟩, fun f i hi => g6 f i (by omega)⟩
  refine hb.own g2.1 (fun f i hi hx => g6 f i (fun e => hx (Or.inr (Or.inl e.1)))) (fun a j ha hx => ?_) (fun z hz => ?_) h56
  · by_cases c : 56 ≤ a
    · exact g7 a j ha (fun e => hx (Or.inr (Or.inr ⟨c, Or.inl e⟩)))
    · exact g2.2.2 a j (by omega)
  · have hb11 := hb.2.2.2.2.2.2.2.1
    rcases hz with q | q | ⟨q56, q⟩
    · have := hb11 z (Or.inl q)
      exact ⟨Or.inl (Or.inl q), this.1, by omega⟩
    · exact ⟨Or.inl (Or.inr (Or.inl q)), by omega, by omega⟩
    · rw [k5.1, k5.2.1, k5.2.2] at q
      have q1 : z = fl σ' 210 s := by omega
      have up := g5.2.2.2.1.2.1
      refine ⟨?_, q56, by omega⟩
      rcases g8 with e | e
      · exact Or.inl (Or.inr (Or.inr ⟨q56, Or.inl (by rw [q1, e])⟩))
      · exact Or.inr (by omega)
theorem XEs.go {n0 s place sg o : Int} {π : Sh} {σ τ : St} {L : List Stq} {Kn : List Int} {ops : List Kid} (hc : CTX b dl) (h : XEs b (XR Xo σ s) π σ τ L Kn) (hr : OST π σ n0 s place sg ops) (hn : nn b.1 ≤ n0 ∧ n0 ≤ nn π) (hl : ops.length < 2) : ∃ π' σ', Sp_give N π σ s o = some (π', σ', s) ∧ FRn n0 π σ π' σ' ∧ OST π' σ' n0 s place sg (ops ++ [(o, 1, 1)]) ∧ XEs b (XR Xo σ' s) π' σ' τ L Kn ∧ (nn π' = nn π ∧ sw π' = sw π) ∧ (∀ (f : Nat) (i : Int), i ≠ s → fl σ' f i = fl σ f i) := by
  obtain ⟨π', σ', g1, g3, g4, g5, g6, g8⟩ := hr.give (N := N) (o := o) h.2.2.2.2.2.1 hn.2 h.1.1 hl
  obtain ⟨⟨n1, n2, n3⟩, n4, n5⟩ := hr.ns hc hn.1
  have h56 : 56 ≤ n0 := hr.2.2.2.2
  refine ⟨π', σ', g1, g3, g4, h.gen (h.2.2.2.2.2.2.1.own (g3.le hn.1) ⟨g8 1 _ (fun w => n1 w.symm), g8 1 _ (fun w => n2 w.symm)⟩) g3.1 (fun f => g8 f 1 (by omega)) (g8 144 44 (by omega)) (fun j => g3.2.2 2 j (by omega)) g5 (fun x hx => ?_), g6, g8⟩
  obtain ⟨w1, w2, w3, w4⟩ := g4.1
  rcases hx with q | q | ⟨q1, q2⟩
  · exact h.2.2.2.2.2.2.2.2.2 x (Or.inl q)
  · omega
  · have t0 := w4.2.1
    have z2 := g4.2.2.1
    omega
/-- the step is added -/
theorem OST.add {n0 s place sg D P : Int} {π : Sh} {σ τ : St} {L : List Stq} {Kn : List Int} {ops : List Kid} (h : OST π σ n0 s place sg ops) (hb : BDy (XR Xo σ s) π σ τ D P L Kn) (hl : ops.length ≤ 2000) (hX : ∀ x, Xo x → x < n0) (hL : L.length ≤ 20000) (h56 : 56 ≤ nn π) : ∃ π' σ', Df_add N π σ D s = some (π', σ', P + L.length) ∧ ob π D 1 ∧ FLs (fl σ 23 D) π σ π' σ' ∧ BDy Xo π' σ' τ D P (L ++ [(25, place, sg, 0, 0, 0, 0, ops)]) Kn ∧ nn π' ≤ nn π + 1 ∧ (sw π' : Int) + 4 * cpc π σ (fl σ 23 D) ≤ sw π + 4 * cpc π' σ' (fl σ 23 D) := by
  obtain ⟨h1, h2, h3, h4, h6⟩ := h
  have bd : BDy Xo π σ τ D P L Kn := hb.un h56
  have o4 := h1.2.2.2.1
  have n5 := h1.2.2.2.2.1
  have sn := h1.2.1
  have sq : SQ π σ s (25, place, sg, 0, 0, 0, 0, ops) := Or.inr ⟨(by decide : (25 : Int) ≠ 99), mkSR h1 (by omega) hl (mkCK (K := 25) h2 (by rw [h3.2.1]; decide) (by omega) (fun h => absurd h (by decide)) (fun _ _ _ => by rw [if_neg (by decide)]) (fun _ => by rw [if_neg (by decide)]) (fun e => absurd e (by decide)) (fun e => absurd e (by decide))) h2.2.1 ⟨h2.2.2.2.2.2.2.1, Or.inl rfl⟩⟩
  have ow : own Xo π σ s := by
    refine ⟨fun q => by have := hX _ q; omega, fun f f1 f2 => ?_⟩
    have nx : ∀ x, x < 0 → ¬ Xo x := fun x hx q => by have := bd.2.2.2.2.2.2.2.1 x q; omega
    rcases (show f = 210 ∨ f = 211 ∨ f = 212 ∨ f = 213 by omega) with rfl | rfl | rfl | rfl
    · exact ⟨o4.2.1, fun q => by have := hX _ q; omega⟩
    · rw [h3.1]; exact ⟨by omega, nx _ (by decide)⟩
    · rw [h3.2.1]; exact ⟨by omega, nx _ (by decide)⟩
    · rw [h3.2.2]; exact ⟨by omega, nx _ (by decide)⟩
  obtain ⟨π', σ', q1, q2, q3, q4, q5, q6, q7⟩ := c_dfAdd (N := N) h56 bd hL sq ow
  rw [q6] at q5
  exact ⟨π', σ', q1, bd.1.1, q2, q3, q4, q5⟩
/-- the step is begun -/
theorem OST.new {place sg D P : Int} {π : Sh} {σ τ : St} {L : List Stq} {Kn : List Int} (hS : SHs π) (bd : BDy Xo π σ τ D P L Kn) : ∃ π' σ', Sp_initB N (nO π 10 14) (zO σ (nn π) dfl) (nn π) 21 place sg 0 = some (π', σ') ∧ ob π' (nn π) 10 ∧ ob (nO π 10 14) (nn π) 10 ∧ BDy (XR Xo σ' (nn π)) π' σ' τ D P L Kn ∧ OST π' σ' (nn π) (nn π) place sg [] ∧ FRn (nn π) π σ π' σ' ∧ nn π' = nn π + 2 ∧ sw π' = sw π + 16 := by
  obtain ⟨π', σ', s1, s2, s3, s4, s5, s6, s7, s8⟩ := c_spInitB (N := N) (π := π) (σ := σ) (kd := 21) (place := place) (a := sg) (b := 0)
  have n56 := hS.1
  refine ⟨π', σ', s1, s6.1, ob_nO π 10 14, ?_, ⟨s6, s5, s7, s8, by omega⟩, s2, s3, s4⟩
  refine bd.own s2.1 (fun f i hi _ => s2.2.1 f i hi) (fun a j ha _ => s2.2.2 a j ha) (fun x hx => ?_) (by omega)
  rcases hx with q | q | ⟨q56, q⟩
  · have := bd.2.2.2.2.2.2.2.1 x q
    exact ⟨Or.inl q, this.1, by omega⟩
  · exact ⟨Or.inr (by omega), by omega, by omega⟩
  · rw [s7.1, s7.2.1, s7.2.2] at q
    have q1 : x = fl σ' 210 (nn π) := by omega
    have := s6.2.2.2.1.2.1
    have := s6.2.2.2.2.1
    exact ⟨Or.inr (by omega), q56, by omega⟩
/-- the terms so far -/
def OCt (N : Nat) (b : Bse) (τ : St) (lo hi r : Int) (Kn : List Int) (j : Int) (seg : List Stq) (t1 tm acc w z : Int) (k : Nat) : Prop := ∀ (x : Nat) (τ2 : St) (Kn2 : List Int) (hi2 : Int) (seg2 : List Stq) (outs : List Int) (w2 z2 w' z' : Int) (k2 : Nat), x ≤ 12 → hi ≤ hi2 → Kn <+: Kn2 → (∀ a i : Int, 85 ≤ a → a ≤ 94 → lo ≤ i → i < hi → i ≠ r → ¬ (a = 85 ∧ i = tm) → el τ2 a i = el τ a i) → TKS N (UDl N x) (12 - x) τ2 (bV b) hi hi2 (bP b) Kn2 (j + seg.length) seg2 (HLv (13 - x) + w2) (HLv (13 - x) + z2) k2 0 0 [(2, el τ2 85 tm)] [acc] outs [] [] → w ≤ w' → w2 ≤ w' → z ≤ z' → z2 ≤ z' → TKS N (UDl N x) (12 - x) τ2 (bV b) lo hi2 (bP b) Kn2 j (seg ++ seg2) (HLv (13 - x) + w') (HLv (13 - x) + z') (k + k2) 0 0 [(2, t1)] [] outs [] []
theorem OCt.cg {τ τ' : St} {lo hi r j t1 tm acc w z w' z' : Int} {Kn Kn' : List Int} {seg : List Stq} {k : Nat} (h : OCt N b τ lo hi r Kn j seg t1 tm acc w z k) (ht : ∀ a i : Int, 85 ≤ a → a ≤ 94 → lo ≤ i → i < hi → i ≠ r → ¬ (a = 85 ∧ i = tm) → el τ' a i = el τ a i) (hK : Kn <+: Kn') (hw : w ≤ w' ∧ z ≤ z') : OCt N b τ' lo hi r Kn' j seg t1 tm acc w' z' k := by
  intro x τ2 Kn2 hi2 seg2 outs w2 z2 w3 z3 k2 h1 h2 h3 h4 h5 h6 h7 h8 h9
  exact h x τ2 Kn2 hi2 seg2 outs w2 z2 w3 z3 k2 h1 h2 (hK.trans h3) (fun a i x1 x2 x3 x4 x5 x6 => (h4 a i x1 x2 x3 x4 x5 x6).trans (ht a i x1 x2 x3 x4 x5 x6)) h5 (by omega) h7 (by omega) h9
/-- the first term -/
theorem OCt.first {τ : St} {lo hi r j t m o w z lo1 hi1 : Int} {Kn : List Int} {seg : List Stq} {k : Nat} (hN : 30000001 ≤ N) (hP : bP b ≤ 4) (ht : 0 ≤ t ∧ t < 32768 ∧ lo ≤ t ∧ t < hi ∧ t ≠ r) (h92 : el τ 92 t = 0) (h87 : el τ 87 t = m) (hE : EXq N b τ lo1 hi1 Kn j seg m o w z k) (hl : lo ≤ lo1 ∧ hi1 ≤ hi ∧ (hi1 ≤ r ∨ r < lo1) ∧ (hi1 ≤ t ∨ t < lo1)) (hw : 0 ≤ w) : OCt N b τ lo hi r Kn j seg t t o (w + 1) z (k + 1) := by
  intro x τ2 Kn2 hi2 seg2 outs w2 z2 w3 z3 k2 h1 h2 h3 h4 h5 h6 h7 h8 h9
  have hl' := HLv_b h1
  have e92 : el τ2 92 t = 0 := by rw [h4 92 t (by omega) (by omega) (by omega) (by omega) (by omega) (by omega)]; exact h92
  have e87 : el τ2 87 t = m := by rw [h4 87 t (by omega) (by omega) (by omega) (by omega) (by omega) (by omega)]; exact h87
  have hE2 : EXq N b τ2 lo1 hi1 Kn2 j seg m o w z k := hE.cg (fun a i x1 x2 x3 x4 _ => h4 a i x1 x2 (by omega) (by omega) (by omega) (by omega)) h3 ⟨Int.le_refl _, Int.le_refl _⟩ ⟨Int.le_refl _, Int.le_refl _, Nat.le_refl _⟩
  exact terms_first hN hP ⟨⟨by omega, by omega⟩, by omega, by omega⟩ e92 e87 rfl (hE2.use h1) h5 ⟨by omega, by omega⟩ ⟨by omega, by omega⟩ ⟨by omega, by omega, by omega⟩ ⟨by omega, by omega⟩ (by omega) (by omega) ⟨Int.le_refl _, by omega⟩
/-- one more term -/
theorem OCt.snoc {τ : St} {lo hi hi' r j t1 tm t m o acc s place w z w1 z1 lo1 hi1 : Int} {Kn : List Int} {seg seg1 : List Stq} {k k1 : Nat} (hN : 30000001 ≤ N) (hP : bP b ≤ 4) (h : OCt N b τ lo hi r Kn j seg t1 tm acc w z k) (htm : lo ≤ tm ∧ tm < hi ∧ tm ≠ r) (h85 : el τ 85 tm = t) (ht : 0 ≤ t ∧ t < 32768 ∧ hi ≤ t ∧ t < hi' ∧ t ≠ r) (h92 : el τ 92 t = s ∧ s ≠ 0 ∧ i32 s) (h93 : el τ 93 t = place) (h87 : el τ 87 t = m) (hE : EXq N b τ lo1 hi1 Kn (j + seg.length) seg1 m o w1 z1 k1) (hl : hi ≤ lo1 ∧ hi1 ≤ hi' ∧ (hi1 ≤ r ∨ r < lo1) ∧ (hi1 ≤ t ∨ t < lo1) ∧ hi ≤ hi' ∧ lo ≤ hi) (hw : 0 ≤ w1 ∧ 0 ≤ z1 ∧ w1 + 2 ≤ w ∧ z1 + 1 ≤ z) : OCt N b τ lo hi' r Kn j (seg ++ (seg1 ++ [(25, place, s, 0, 0, 0, 0, [(acc, 1, 1), (o, 1, 1)])])) t1 t (bP b + (j + seg.length + seg1.length)) w z (k + (k1 + 2)) := by
  intro x τ2 Kn2 hi2 seg2 outs w2 z2 w3 z3 k2 h1 h2 h3 h4 h5 h6 h7 h8 h9
  have hl' := HLv_b h1
  have e : ∀ a : Int, 86 ≤ a → a ≤ 94 → el τ2 a t = el τ a t := fun a x1 x2 => h4 a t (by omega) x2 (by omega) (by omega) (by omega) (by omega)
  have hE2 : EXq N b τ2 lo1 hi1 Kn2 (j + seg.length) seg1 m o w1 z1 k1 := hE.cg (fun a i x1 x2 x3 x4 _ => h4 a i x1 x2 (by omega) (by omega) (by omega) (by omega)) h3 ⟨Int.le_refl _, Int.le_refl _⟩ ⟨Int.le_refl _, Int.le_refl _, Nat.le_refl _⟩
  have jl : j + ((seg ++ (seg1 ++ [((25 : Int), place, s, (0 : Int), (0 : Int), (0 : Int), (0 : Int), [(acc, (1 : Int), (1 : Int)), (o, (1 : Int), (1 : Int))])])).length : Int) = j + seg.length + seg1.length + 1 := by
    rw [List.length_append, List.length_append]; simp; omega
  rw [jl] at h5
  have t2 := terms_cons (lo := hi) (hi := hi2) (u := HLv (13 - x) + w3) (v := HLv (13 - x) + z3) (k := k1 + k2 + 2) (e := 0) (δ := 0) (l := acc) (place := place) hN hP ⟨⟨by omega, by omega⟩, by omega, by omega⟩ ⟨by rw [e 92 (by omega) (by omega)]; exact h92.1, h92.2⟩ (by rw [e 93 (by omega) (by omega)]; exact h93) (by rw [e 87 (by omega) (by omega)]; exact h87) rfl (hE2.use h1) h5 ⟨by omega, by omega⟩ ⟨by omega, by omega⟩ ⟨by omega, by omega, by omega⟩ ⟨by omega, by omega, by omega⟩ (Nat.le_refl _) (by omega) ⟨Int.le_refl _, by omega, by omega⟩
  have e85 : el τ2 85 tm = t := by rw [h4 85 tm (by omega) (by omega) (by omega) (by omega) (by omega) (by omega)]; exact h85
  have fin := h x τ2 Kn2 hi2 _ outs w3 z3 w3 z3 (k1 + k2 + 2) h1 (by omega) h3 (fun a i x1 x2 x3 x4 x5 x6 => h4 a i x1 x2 x3 (by omega) x5 (by omega)) (by rw [e85]; exact t2) h6 (Int.le_refl _) h8 (Int.le_refl _)
  have ke : k + (k1 + 2) + k2 = k + (k1 + k2 + 2) := by omega
  have le : (seg ++ (seg1 ++ [((25 : Int), place, s, (0 : Int), (0 : Int), (0 : Int), (0 : Int), [(acc, (1 : Int), (1 : Int)), (o, (1 : Int), (1 : Int))])])) ++ seg2 = seg ++ (seg1 ++ ([((25 : Int), place, s, (0 : Int), (0 : Int), (0 : Int), (0 : Int), [(acc, (1 : Int), (1 : Int)), (o, (1 : Int), (1 : Int))])] ++ seg2)) := by
    rw [List.append_assoc, List.append_assoc]
  rw [ke, le]
  exact fin
end SU
