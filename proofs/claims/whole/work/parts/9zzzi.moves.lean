/-! expressions: tokens go on, names are looked up -/
section EM
variable {N : Nat} {b : Bse} {Xo : Int → Prop} {dl : List (Int × Int)}
theorem BDy.er {π : Sh} {σ σ' τ τ' : St} {D P : Int} {L : List Stq} {Kn : List Int} (h : BDy Xo π σ τ D P L Kn) (ht : TX τ τ') (k : ERf σ σ') : BDy Xo π σ' τ' D P L Kn := by
  obtain ⟨b1, b2, b3, -⟩ := h.b
  have h1 := k.1
  exact h.mv ⟨ext.rf _, fun f i a b _ => h1 f i (by unfold inF at a; omega) (by unfold inF at a; omega) (by unfold inF at a; omega), fun a j _ _ _ => k.2 a j⟩ ht ⟨h1 22 D (by omega) (by omega) (by omega), h1 23 D (by omega) (by omega) (by omega), h1 24 D (by omega) (by omega) (by omega)⟩ (fun f x hf hx => h1 f x (by omega) (by omega) (by omega)) (fun x j _ _ => k.2 _ j)
theorem EFt.d {x y D : Int} {π π' : Sh} {σ σ' : St} (h : EFt x y π σ π' σ') (hD : 56 ≤ D ∧ D < nn π) (f : Nat) (hf : 3 ≤ f) : fl σ' f D = fl σ f D := h.2.1 f D hD.2 (by omega) (by omega) (by omega) (by omega)
theorem XEs.x {π : Sh} {σ τ : St} {L : List Stq} {Kn : List Int} (hc : CTX b dl) (h : XEs b Xo π σ τ L Kn) : fl σ 23 (bD b) = bX b ∧ fl σ 24 (bD b) = bY b := by
  obtain ⟨c1, c2, -⟩ := hc
  obtain ⟨-, -, -, -, -, -, h7, -⟩ := h
  exact ⟨h7.d c2 23 (by omega), h7.d c2 24 (by omega)⟩
/-- scanner, reader, and the reference's tables go on -/
theorem XEs.mv {π : Sh} {σ τ σ' τ' : St} {L : List Stq} {Kn : List Int} {lo d : Int} (hc : CTX b dl) (h : XEs b Xo π σ τ L Kn) (k : ERf σ σ') (hr : RDr lo d τ τ') (hl : bV b ≤ lo) (hd : 0 ≤ d) (h16 : bV b ≤ fl τ' 16 0) (hf : fl σ' 182 1 = 0 ∧ fl τ' 11 0 = 0) (ho : fl σ' 184 1 = fl τ' 13 0 ∧ 0 ≤ fl τ' 13 0 ∧ fl τ' 13 0 ≤ 20) (ht : TKr σ' τ') : XEs b Xo π σ' τ' L Kn := by
  obtain ⟨h1, h2, h3, h4, h5, h6, h7, h8, h9, h10⟩ := h
  obtain ⟨c1, c2, c3, -⟩ := hc
  exact ⟨h1, ht, hf, ho, by rw [k.1 144 44 (by omega) (by omega) (by omega)]; exact h5, h6.er (TX.rd hr) k, h7.tr (EFt.rd k ⟨c3.1, c3.2.2.1⟩), h8.tr hr hl hd, h16, h10⟩
theorem TKr.rd {σ σ' τ τ' : St} {lo d : Int} (h : TKr σ τ) (h1 : ∀ f : Nat, f = 181 ∨ (185 ≤ f ∧ f ≤ 190) → fl σ' f 1 = fl σ f 1) (h2 : ∀ j : Int, el σ' 2 j = el σ 2 j) (hr : RDr lo d τ τ') (h3 : ∀ f : Nat, 3 ≤ f ∧ f ≤ 10 → fl τ' f 0 = fl τ f 0) : TKr σ' τ' := h.cg h1 h2 (fun f hf => by
  rcases hf with rfl | hf
  · exact hr.1 1 0 (by omega) (by decide) (by decide) (by decide) (by decide)
  · exact h3 f hf) (fun j => hr.2.1 97 j (by omega) (by omega))
theorem RDr.sc {lo d : Int} {τ τ' : St} (h : SFr τ τ') : RDr lo d τ τ' := ⟨fun f i a _ _ _ _ => h.1 f i (by omega), fun a j _ _ => h.2 a j, fun a j _ _ _ => h.2 a j, fun a j _ _ _ => h.2 a j⟩
/-- the next token -/
theorem XEs.adv {π : Sh} {σ τ : St} {L : List Stq} {Kn : List Int} (hN : 3000 ≤ N) (hc : CTX b dl) (h : XEs b Xo π σ τ L Kn) (h5 : fl σ 185 1 ≠ 5) : ∃ σ' τ', Sc_advance N π σ = some σ' ∧ r_advance N τ = some τ' ∧ XEs b Xo π σ' τ' L Kn ∧ SFc σ σ' ∧ SFr τ τ' ∧ fl τ 5 0 ≤ fl τ' 4 0 ∧ (fl σ 185 1 = 6 ∨ fl τ 4 0 + 1 ≤ fl τ' 4 0) ∧ (fl σ 185 1 = 1 → fl σ' 185 1 = 1 → fl τ 4 0 + 2 ≤ fl τ' 4 0) := by
  obtain ⟨σ', τ', q1, q2, q3, q4, q5, q6, q7, q8⟩ := both_advance (N := N) (π := π) hN h.2.1 h5
  obtain ⟨h1, h2, h3, h4, h5', h6, h7, h8, h9, h10⟩ := id h
  refine ⟨σ', τ', q1, q2, h.mv hc (ERf.sc q3) (RDr.sc (lo := bV b) (d := 0) q4) (Int.le_refl _) (Int.le_refl _) (by rw [q4.1 16 0 (by omega)]; exact h9) ⟨by rw [q3.1 182 1 (by omega)]; exact h3.1, by rw [q4.1 11 0 (by omega)]; exact h3.2⟩ (by rw [q3.1 184 1 (by omega), q4.1 13 0 (by omega)]; exact h4) q5, q3, q4, q6, q7, q8⟩
/-- a name among the parameters -/
theorem param_both {π : Sh} {σ τ : St} {D P nm : Int} (ho : ob π D 1) (hP : fl σ 22 D = P ∧ P ≤ 4 ∧ 0 ≤ P) (hQ : fl τ 38 0 = P) (ha : ob π (fl σ 21 D) 23 ∧ ln π (fl σ 21 D) = 4) (hn : RNm nm (fl τ 7 0) (fl τ 8 0)) (hR : ∀ i : Int, 0 ≤ i → i < P → RNm (el σ (fl σ 21 D) i) (el τ 76 i) (el τ 75 i)) : ∀ (m n n' : Nat) (i : Int), 0 ≤ i → (P - i).toNat = m → i ≤ 4 → m < n → m < n' → ∃ p, (p = -1 ∨ (0 ≤ p ∧ p < P)) ∧ Df_parameterIndex_2 N π n σ D nm i = some (σ, p) ∧ r_paramHere_2 N n' τ i = some (τ, p) := by
  intro m
  induction m with
  | zero =>
    intro n n' i h0 hm h4 hn1 hn2
    obtain ⟨n, rfl⟩ : ∃ q, n = q + 1 := ⟨n - 1, by omega⟩
    obtain ⟨n', rfl⟩ : ∃ q, n' = q + 1 := ⟨n' - 1, by omega⟩
    refine ⟨-1, Or.inl rfl, ?_, ?_⟩
    · unfold Df_parameterIndex_2
      rw [grd_t ho, grd_t (by exact ⟨by omega, by omega⟩), hP.1, grd_t (by exact ⟨by omega, by omega⟩), if_neg (by omega)]
    · unfold r_paramHere_2
      rw [grd_t (by exact ⟨by omega, by omega⟩), hQ, grd_t (by exact ⟨by omega, by omega⟩), if_neg (by omega)]
  | succ m ih =>
    intro n n' i h0 hm h4 hn1 hn2
    obtain ⟨n, rfl⟩ : ∃ q, n = q + 1 := ⟨n - 1, by omega⟩
    obtain ⟨n', rfl⟩ : ∃ q, n' = q + 1 := ⟨n' - 1, by omega⟩
    have r := hR i h0 (by omega)
    have e := r.eq hn
    obtain ⟨⟨-, i1⟩, i2, i3⟩ := r.i
    obtain ⟨⟨-, k1⟩, k2, k3⟩ := hn.i
    have hp := hP.2
    have hCc : Df_parameterIndex_2 N π (n + 1) σ D nm i = if el σ (fl σ 21 D) i = nm then some (σ, i) else Df_parameterIndex_2 N π n σ D nm (i + 1) := by
      rw [Df_parameterIndex_2, grd_t ho, grd_t (by exact ⟨by omega, by omega⟩), hP.1, grd_t (by exact ⟨by omega, by omega⟩), if_pos (show i < P by omega), grd_t ha.1, grd_t (by exact ⟨by omega, by rw [ha.2]; omega, by omega⟩), grd_t i1, grd_t k1]
    rw [hCc, r_paramHere_2, grd_t (by exact ⟨by omega, by omega⟩), hQ, grd_t (by exact ⟨by omega, by omega⟩), if_pos (show i < P by omega), grd_t (by exact ⟨by omega, by omega⟩), grd_t i2, grd_t k2]
    by_cases c : el σ (fl σ 21 D) i = nm
    · obtain ⟨c1, c2⟩ := e.1 c
      rw [if_pos c, if_pos c1, grd_t i3, grd_t k3, if_pos c2]
      exact ⟨i, Or.inr ⟨h0, by omega⟩, rfl, rfl⟩
    · rw [if_neg c]
      obtain ⟨p, p1, p2, p3⟩ := ih n n' (i + 1) (by omega) (by omega) (by omega) (by omega) (by omega)
      refine ⟨p, p1, p2, ?_⟩
      by_cases c1 : el τ 76 i = fl τ 7 0
      · rw [if_pos c1, grd_t i3, grd_t k3, if_neg (fun c2 => c (e.2 ⟨c1, c2⟩))]
        exact p3
      · rw [if_neg c1]
        exact p3
/-- a name among the definitions -/
theorem defs_both {π : Sh} {σ τ : St} {nm : Int} (ho : ob π 43 0) (hn : RNm nm (fl τ 7 0) (fl τ 8 0)) (h36 : fl τ 36 0 = dl.length ∧ fl σ 2 43 = dl.length ∧ (dl.length : Int) ≤ 700) (ha : dl ≠ [] → ob π (fl σ 1 43) 27 ∧ (dl.length : Int) ≤ ln π (fl σ 1 43)) (hA : At (fun i (e : Int × Int) => el σ (fl σ 1 43) i = e.1 ∧ el τ 77 i = e.2) 0 dl) (hR : ∀ e ∈ dl, ob π e.1 1 ∧ RNm (fl σ 20 e.1) (el τ 83 e.2) (el τ 82 e.2) ∧ (0 ≤ fl σ 22 e.1 ∧ fl σ 22 e.1 ≤ 4) ∧ 0 ≤ e.2 ∧ e.2 < 6000) : ∀ (m n n' : Nat) (i : Int), 0 ≤ i → i ≤ dl.length → ((dl.length : Int) - i).toNat = m → m < n → m < n' → (Rd_kindOf_41 N π n σ nm i = some (σ, 0) ∧ r_definitionHere_2 N n' τ i = some (τ, -1)) ∨ ∃ e ∈ dl, Rd_kindOf_41 N π n σ nm i = some (sf σ 146 44 e.1, if fl σ 22 e.1 = 0 then 3 else 4) ∧ r_definitionHere_2 N n' τ i = some (τ, e.2) := by
  intro m
  induction m with
  | zero =>
    intro n n' i h0 hi hm hn1 hn2
    obtain ⟨n, rfl⟩ : ∃ q, n = q + 1 := ⟨n - 1, by omega⟩
    obtain ⟨n', rfl⟩ : ∃ q, n' = q + 1 := ⟨n' - 1, by omega⟩
    left
    constructor
    · unfold Rd_kindOf_41 L_size
      rw [grd_t ho, Option.bind_some]
      simp only
      rw [grd_t (by exact ⟨by omega, by omega⟩), h36.2.1, grd_t (by exact ⟨by omega, by omega⟩), if_neg (by omega)]
    · unfold r_definitionHere_2
      rw [grd_t (by exact ⟨by omega, by omega⟩), h36.1, grd_t (by exact ⟨by omega, by omega⟩), if_neg (by omega)]
  | succ m ih =>
    intro n n' i h0 hi hm hn1 hn2
    obtain ⟨n, rfl⟩ : ∃ q, n = q + 1 := ⟨n - 1, by omega⟩
    obtain ⟨n', rfl⟩ : ∃ q, n' = q + 1 := ⟨n' - 1, by omega⟩
    have hlt : i.toNat < dl.length := by omega
    have hg := hA.get i.toNat hlt
    have hz : (0 : Int) + (i.toNat : Int) = i := by omega
    rw [hz] at hg
    obtain ⟨g1, g2⟩ := hg
    have hm' : dl[i.toNat] ∈ dl := List.getElem_mem hlt
    obtain ⟨r1, r, r3, r4⟩ := hR _ hm'
    obtain ⟨a1, a2⟩ := ha (fun e => by rw [e] at hlt; simp at hlt)
    have e := r.eq hn
    obtain ⟨⟨-, i1⟩, i2, i3⟩ := r.i
    obtain ⟨⟨-, k1⟩, k2, k3⟩ := hn.i
    have hC : Rd_kindOf_41 N π (n + 1) σ nm i = if fl σ 20 (dl[i.toNat]).1 = nm then some (sf σ 146 44 (dl[i.toNat]).1, if fl σ 22 (dl[i.toNat]).1 = 0 then 3 else 4) else Rd_kindOf_41 N π n σ nm (i + 1) := by
      have hget : L_get π σ 43 i = some (σ, (dl[i.toNat]).1) := by
        unfold L_get
        rw [grd_t ho, grd_t (by exact ⟨by omega, by omega⟩), h36.2.1, grd_t (by exact ⟨by omega, by omega⟩), grd_t ⟨h0, by omega⟩, grd_t a1, grd_t (by exact ⟨h0, by omega, by omega⟩), g1]
      have hsz : L_size π σ 43 = some (σ, (dl.length : Int)) := by
        unfold L_size
        rw [grd_t ho, h36.2.1]
      rw [Rd_kindOf_41, hsz, Option.bind_some]
      simp only
      rw [grd_t (by exact ⟨by omega, by omega⟩), grd_t (by exact ⟨by omega, by omega⟩), if_pos (by omega), hget, Option.bind_some]
      simp only
      rw [grd_t r1, grd_t i1, grd_t k1]
      by_cases c : fl σ 20 (dl[i.toNat]).1 = nm
      · rw [if_pos c, if_pos c, hget, Option.bind_some]
        simp only
        rw [grd_t r1, grd_t (by exact ⟨by omega, by omega⟩)]
        by_cases c2 : fl σ 22 (dl[i.toNat]).1 = 0
        · rw [if_pos c2, if_pos c2]
        · rw [if_neg c2, if_neg c2]
      · rw [if_neg c, if_neg c]
    rw [hC, r_definitionHere_2, grd_t (by exact ⟨by omega, by omega⟩), h36.1, grd_t (by exact ⟨by omega, by omega⟩), if_pos (show i < (dl.length : Int) by omega), grd_t (by exact ⟨h0, by omega⟩), g2, grd_t (by exact ⟨by omega, by omega⟩), grd_t i2, grd_t k2]
    by_cases c : fl σ 20 (dl[i.toNat]).1 = nm
    · obtain ⟨c1, c2⟩ := e.1 c
      rw [if_pos c, if_pos c1, grd_t i3, grd_t k3, if_pos c2]
      right
      exact ⟨_, hm', rfl, rfl⟩
    · rw [if_neg c]
      have q := ih n n' (i + 1) (by omega) (by omega) (by omega) (by omega) (by omega)
      have er : (if el τ 83 (dl[i.toNat]).2 = fl τ 7 0 then grd (i64 (el τ 82 (dl[i.toNat]).2)) (grd (i64 (fl τ 8 0)) (if el τ 82 (dl[i.toNat]).2 = fl τ 8 0 then some (τ, (dl[i.toNat]).2) else r_definitionHere_55 N (r_definitionHere_2 N n') τ i)) else r_definitionHere_55 N (r_definitionHere_2 N n') τ i) = r_definitionHere_2 N n' τ (i + 1) := by
        by_cases c1 : el τ 83 (dl[i.toNat]).2 = fl τ 7 0
        · rw [if_pos c1, grd_t i3, grd_t k3, if_neg (fun c2 => c (e.2 ⟨c1, c2⟩))]; rfl
        · rw [if_neg c1]; rfl
      rw [er]
      exact q
/-- the context as it stands now -/
theorem XEs.cx {π : Sh} {σ τ : St} {L : List Stq} {Kn : List Int} (hc : CTX b dl) (h : XEs b Xo π σ τ L Kn) : (FNc σ ∧ FNr τ) ∧ (ob π (bD b) 1 ∧ fl σ 22 (bD b) = bP b ∧ fl τ 38 0 = bP b) ∧ (ob π (fl σ 21 (bD b)) 23 ∧ ln π (fl σ 21 (bD b)) = 4) ∧ (∀ i : Int, 0 ≤ i → i < bP b → RNm (el σ (fl σ 21 (bD b)) i) (el τ 76 i) (el τ 75 i)) ∧ ob π 43 0 ∧ (fl τ 36 0 = dl.length ∧ fl σ 2 43 = dl.length ∧ (dl.length : Int) ≤ 700) ∧ (dl ≠ [] → ob π (fl σ 1 43) 27 ∧ (dl.length : Int) ≤ ln π (fl σ 1 43)) ∧ At (fun i (e : Int × Int) => el σ (fl σ 1 43) i = e.1 ∧ el τ 77 i = e.2) 0 dl ∧ (∀ e ∈ dl, ob π e.1 1 ∧ RNm (fl σ 20 e.1) (el τ 83 e.2) (el τ 82 e.2) ∧ (0 ≤ fl σ 22 e.1 ∧ fl σ 22 e.1 ≤ 4) ∧ 0 ≤ e.2 ∧ e.2 < 6000) ∧ (∀ e ∈ dl, fl σ 22 e.1 = el τ 81 e.2 ∧ el τ 81 e.2 = el b.2.2.1 81 e.2 ∧ (fl σ 22 e.1 = 0 → ob π (fl σ 26 e.1) 5 ∧ PRX Xo π σ τ (fl σ 26 e.1) (el τ 79 e.2))) := by
  obtain ⟨c1, c2, c3, c4, ⟨c5, c6, c7, c8, c9, c10⟩, ⟨d1, d2, d3, d4⟩, d5, d6, d7, d8⟩ := hc
  obtain ⟨h1, h2, h3, h4, h5, h6, h7, h8, h9, h10⟩ := h
  have ex := h7.1
  have n56 := d1.2.1
  have e1 : ∀ a j : Int, 0 ≤ a → a < nn b.1 → el σ a j = el b.2.1 a j := fun a j x y => h7.2.2.1 a j y (by omega) (by omega)
  have e2 : ∀ a j : Int, ¬ (71 ≤ a ∧ a ≤ 74) → ¬ (84 ≤ a ∧ a ≤ 94) → el τ a j = el b.2.2.1 a j := fun a j x y => h8.2.1 a j x y
  have e3 : ∀ f : Nat, ¬ (2 ≤ f ∧ f ≤ 13) → f ≠ 16 → f ≠ 41 → f ≠ 46 → f ≠ 47 → fl τ f 0 = fl b.2.2.1 f 0 := fun f a b c d e => h8.1 f 0 a b c d e
  have e43 : ∀ f : Nat, fl σ f 43 = fl b.2.1 f 43 := fun f => h7.2.1 f 43 n56 (by omega) (by omega) (by omega) (by omega)
  have eD : ∀ (i : Int) (f : Nat), ob b.1 i 1 → 3 ≤ f → f < 40 → fl σ f i = fl b.2.1 f i := fun i f o x y => h7.2.1 f i o.2.1 (by omega) (by omega) (by omega) (by omega)
  have eb : ∀ f : Nat, 3 ≤ f → fl σ f (bD b) = fl b.2.1 f (bD b) := fun f hf => h7.d c2 f hf
  have hp : HP b.1 b.2.1 π σ := ⟨ex, fun f i a x hi => h7.2.1 f i hi (by unfold inF at a; omega) (by unfold inF at a; omega) (by unfold inF at a; omega) (by omega), fun a j x y z => e1 a j (by omega) y⟩
  refine ⟨⟨?_, ?_⟩, ⟨h6.1.1, h6.1.2.1, by rw [e3 38 (by omega) (by omega) (by omega) (by omega) (by omega)]; exact c7⟩, ?_, ?_, d1.ext ex, ⟨by rw [e3 36 (by omega) (by omega) (by omega) (by omega) (by omega)]; exact d3, by rw [e43]; exact d2, d4⟩, ?_, ?_, ?_, ?_⟩
  · exact c1.1.mono (fun i w _ _ _ hq => by rw [e1 45 i (by omega) (by have := n56; omega)]; exact hq)
  · exact c1.2.mono (fun i w _ _ _ hq => by rw [e2 96 i (by omega) (by omega)]; exact hq)
  · rw [eb 21 (by omega)]
    exact ⟨c8.ext ex, by rw [(ex.2.2 _ c8.2.1).2]; exact c9⟩
  · intro i x y
    rw [eb 21 (by omega), e1 _ i c8.1 c8.2.1, e2 76 i (by omega) (by omega), e2 75 i (by omega) (by omega)]
    exact c10 i x y
  · intro hne
    obtain ⟨q1, q2⟩ := d5 hne
    rw [e43]
    exact ⟨q1.ext ex, by rw [(ex.2.2 _ q1.2.1).2]; exact q2⟩
  · by_cases hne : dl = []
    · rw [hne]; trivial
    · obtain ⟨q1, q2⟩ := d5 hne
      exact d6.mono (fun i e _ _ _ hq => by rw [e43, e1 _ i q1.1 q1.2.1, e2 77 i (by omega) (by omega)]; exact hq)
  · intro e he
    obtain ⟨q1, q2, q3, q4, q5, q6⟩ := d7 e he
    rw [eD _ 20 q1 (by omega) (by omega), eD _ 22 q1 (by omega) (by omega), e2 83 _ (by omega) (by omega), e2 82 _ (by omega) (by omega)]
    exact ⟨q1.ext ex, q2, q4, q5⟩
  · intro e he
    obtain ⟨q1, q2, q3, q4, q5, q6⟩ := d7 e he
    rw [eD _ 22 q1 (by omega) (by omega), eD _ 26 q1 (by omega) (by omega), e2 81 _ (by omega) (by omega), e2 79 _ (by omega) (by omega)]
    refine ⟨q3, rfl, fun hz => ?_⟩
    obtain ⟨r1, r2⟩ := q6 hz
    exact ⟨r1.ext ex, b.1, b.2.1, b.2.2.1, r2, hp, TX.rd h8, h10⟩
/-- what a name is, to both -/
theorem kind_all {π : Sh} {σ τ : St} {L : List Stq} {Kn : List Int} (hN : 3000 ≤ N) (hc : CTX b dl) (h : XEs b Xo π σ τ L Kn) (h1 : fl σ 185 1 = 1) : ∃ p f e σ', r_paramHere N τ = some (τ, p) ∧ r_functionHere N τ = some (τ, f) ∧ r_definitionHere N τ = some (τ, e.2) ∧ (p = -1 ∨ (0 ≤ p ∧ p < bP b)) ∧ (f = -1 ∨ (0 ≤ f ∧ f ≤ 20)) ∧ ((e : Int × Int) = (-1, -1) ∨ e ∈ dl) ∧ ERf σ σ' ∧ (∀ f : Nat, fl σ' f 1 = fl σ f 1) ∧ Rd_kindOf N π σ (fl σ 188 1) = some (σ', if 0 ≤ p then 1 else if 0 ≤ f then 2 else if e = (-1, -1) then 0 else if el b.2.2.1 81 e.2 = 0 then 3 else 4) ∧ (0 ≤ p → fl σ' 145 44 = p) ∧ (p < 0 → 0 ≤ f → fl σ' 145 44 = f) ∧ (p < 0 → f < 0 → e ∈ dl → fl σ' 146 44 = e.1) := by
  obtain ⟨⟨x1, x2⟩, ⟨x3, x4, x5⟩, x6, x7, x8, x9, x10, x11, x12, x13⟩ := h.cx hc
  obtain ⟨-, -, -, -, ⟨c5, -⟩, -⟩ := hc
  obtain ⟨-, ⟨t1, t2, t3, t4, t5, t6⟩, -, -, h5, -⟩ := h
  rcases t6 with q | q | ⟨-, -, e, q1, q2, q3, q4, q5, q6, q7, q8, q9⟩ | q | q | q | q | ⟨sg, s1, s2, -⟩
  · omega
  · omega
  · have hn : RNm (fl σ 188 1) (fl τ 7 0) (fl τ 8 0) := ⟨cdr τ (fl τ 4 0) e, cdr_ok q4, by rw [cdr_len]; exact q2.1, by rw [cdr_len]; exact q2.2, q7, q8, q9⟩
    obtain ⟨p, p1, p2, p3⟩ := param_both (N := N) x3 ⟨x4, c5.2, c5.1⟩ x5 x6 hn x7 _ N N 0 (Int.le_refl _) rfl (by omega) (by omega) (by omega)
    obtain ⟨f, f1, f2, f3⟩ := both_fn (N := N) (π := π) hN t1 x1 x2 rfl q1 t4.1 (by omega) q2.2 q4
    have hd := defs_both (N := N) x8 hn x9 x10 x11 x12 _ N N 0 (Int.le_refl _) (by omega) rfl (by omega) (by omega)
    have i188 := hn.i.1.2
    have p2' : Df_parameterIndex N π σ (fl σ 144 44) (fl σ 188 1) = some (σ, p) := by rw [h5]; exact p2
    have f2' : ∀ v, Rd_functionOf N π (sf σ 145 44 v) (fl σ 188 1) = some (sf σ 145 44 v, f) := by
      intro v
      have t : RTp (sf σ 145 44 v) τ := t1.stl rfl rfl (fun _ => rfl) (fun _ => rfl)
      have x1' : FNc (sf σ 145 44 v) := x1
      obtain ⟨g, g1, g2, g3⟩ := both_fn (N := N) (π := π) hN t x1' x2 rfl q1 t4.1 (by omega) q2.2 q4
      rw [q7, g2]
      rw [f3] at g3
      injection g3 with g3
      injection g3 with g3 g4
      rw [g4]
    have hdx : ∀ v, (Rd_kindOf_41 N π N (sf σ 145 44 v) (fl σ 188 1) 0 = some (sf σ 145 44 v, 0) ∧ r_definitionHere_2 N N τ 0 = some (τ, -1)) ∨ ∃ e ∈ dl, Rd_kindOf_41 N π N (sf σ 145 44 v) (fl σ 188 1) 0 = some (sf (sf σ 145 44 v) 146 44 e.1, if fl σ 22 e.1 = 0 then 3 else 4) ∧ r_definitionHere_2 N N τ 0 = some (τ, e.2) := by
      intro v
      have z : ∀ (g : Nat) (i : Int), g ≠ 145 → fl (sf σ 145 44 v) g i = fl σ g i := fun g i hg => fl_sfn _ _ _ _ hg
      have t := defs_both (N := N) (dl := dl) (π := π) (σ := sf σ 145 44 v) (τ := τ) (nm := fl σ 188 1) x8 hn (by rw [z 2 43 (by decide)]; exact x9) (by rw [z 1 43 (by decide)]; exact x10) (by rw [z 1 43 (by decide)]; exact x11) (fun e he => by rw [z 20 _ (by decide), z 22 _ (by decide)]; exact x12 e he) _ N N 0 (Int.le_refl _) (by omega) rfl (by omega) (by omega)
      rcases t with t | ⟨e, e1, e2, e3⟩
      · exact Or.inl t
      · rw [z 22 _ (by decide)] at e2
        exact Or.inr ⟨e, e1, e2, e3⟩
    obtain ⟨e', he1, he2⟩ : ∃ e' : Int × Int, r_definitionHere N τ = some (τ, e'.2) ∧ ((e' = (-1, -1) ∧ ∀ v, Rd_kindOf_41 N π N (sf σ 145 44 v) (fl σ 188 1) 0 = some (sf σ 145 44 v, 0)) ∨ (e' ∈ dl ∧ fl (sf (sf σ 145 44 f) 146 44 e'.1) 146 44 = e'.1 ∧ Rd_kindOf_41 N π N (sf σ 145 44 f) (fl σ 188 1) 0 = some (sf (sf σ 145 44 f) 146 44 e'.1, if el b.2.2.1 81 e'.2 = 0 then 3 else 4))) := by
      rcases hdx f with t | ⟨e', e1, e2, e3⟩
      · refine ⟨(-1, -1), t.2, Or.inl ⟨rfl, fun v => ?_⟩⟩
        rcases hdx v with w | ⟨e', e1, e2, e3⟩
        · exact w.1
        · exfalso
          have w := t.2
          rw [e3] at w
          injection w with w
          injection w with w1 w2
          have := (x12 e' e1).2.2.2
          omega
      · refine ⟨e', e3, Or.inr ⟨e1, fl_sfs _ _ _ _, ?_⟩⟩
        rw [e2, (x13 e' e1).1, (x13 e' e1).2.1]
    have n0 : ∀ e : Int × Int, e ∈ dl → e ≠ (-1, -1) := fun e he q => by
      have := (x12 e he).2.2.2
      rw [q] at this
      omega
    by_cases cp : 0 ≤ p
    · refine ⟨p, f, e', sf σ 145 44 p, p3, f3, he1, p1, f1, ?_, ERf.sf _ _ _ _ (by omega), fun g => by rw [fl_sf, if_neg (by omega)], ?_, fun _ => fl_sfs _ _ _ _, fun q => by omega, fun q => by omega⟩
      · rcases he2 with q | q
        · exact Or.inl q.1
        · exact Or.inr q.1
      · rw [Rd_kindOf, p2', Option.bind_some, h5, grd_t x3]
        simp only
        rw [grd_t (by exact ⟨by omega, by omega⟩), if_neg (by omega), if_pos cp]
    · have hk : Rd_kindOf N π σ (fl σ 188 1) = if f < 0 then Rd_kindOf_41 N π N (sf σ 145 44 f) (fl σ 188 1) 0 else some (sf σ 145 44 f, 2) := by
        rw [Rd_kindOf, p2', Option.bind_some, h5, grd_t x3]
        simp only
        rw [grd_t (by exact ⟨by omega, by omega⟩), if_pos (by omega)]
        simp only [bnd]
        rw [f2', Option.bind_some]
        simp only
        rw [grd_t (by exact ⟨by omega, by omega⟩), sf_sf]
      rw [hk]
      by_cases cf : f < 0
      · rw [if_pos cf]
        rcases he2 with ⟨q1', q2'⟩ | ⟨q1', q2', q3'⟩
        · refine ⟨p, f, e', sf σ 145 44 f, p3, f3, he1, p1, f1, Or.inl q1', ERf.sf _ _ _ _ (by omega), fun g => by rw [fl_sf, if_neg (by omega)], ?_, fun q => by omega, fun _ q => by omega, fun _ _ q => absurd q1' (n0 _ q)⟩
          rw [q2' f, if_neg cp, if_neg (show ¬ 0 ≤ f by omega), if_pos q1']
        · refine ⟨p, f, e', _, p3, f3, he1, p1, f1, Or.inr q1', (ERf.sf σ 145 44 f (by omega)).tr (ERf.sf _ 146 44 _ (by omega)), fun g => by rw [fl_sf, if_neg (by omega), fl_sf, if_neg (by omega)], ?_, fun q => by omega, fun _ q => by omega, fun _ _ _ => q2'⟩
          rw [q3', if_neg cp, if_neg (show ¬ 0 ≤ f by omega), if_neg (n0 _ q1')]
      · rw [if_neg cf]
        refine ⟨p, f, e', sf σ 145 44 f, p3, f3, he1, p1, f1, ?_, ERf.sf _ _ _ _ (by omega), fun g => by rw [fl_sf, if_neg (by omega)], ?_, fun q => by omega, fun _ _ => fl_sfs _ _ _ _, fun _ q => by omega⟩
        · rcases he2 with q | q
          · exact Or.inl q.1
          · exact Or.inr q.1
        · rw [if_neg cp, if_pos (by omega)]
  · omega
  · omega
  · omega
  · omega
  · unfold isSgB isOpB at s1; omega
end EM
