/-! a whole expression (hang) -/
section WH9
variable {N : Nat}
/-- an expression where the tape has ended -/
theorem exp_end {π : Sh} {σ : St} (hN : 1 ≤ N) (h6 : fl σ 185 1 = 6) (h0 : fl σ 182 1 = 0) : Rd_exp N (Rd_argC N 24) (Rd_funC N 24) π σ = some (π, sf (sf σ 182 1 1) 183 1 (fl σ 186 1), 0) := by
  obtain ⟨n, rfl⟩ : ∃ n, N = n + 1 := ⟨N - 1, by omega⟩
  have a : Rd_argC (n + 1) 24 π σ = some (π, sf (sf σ 182 1 1) 183 1 (fl σ 186 1), 0) := by
    show Rd_arg (n + 1) (Rd_argC (n + 1) 23) (Rd_funC (n + 1) 23) π σ = _
    rw [Rd_arg, h6, grd_t (by decide), if_neg (by decide), if_neg (by decide), Rd_arg_32, grd_t (by decide), if_pos rfl, h6, grd_t (by decide), if_neg (by decide), Sc_fail, h0, grd_t (by decide), if_pos rfl, Option.bind_some]
  obtain ⟨σ1, hσ1⟩ : ∃ σ1, σ1 = sf (sf σ 182 1 1) 183 1 (fl σ 186 1) := ⟨_, rfl⟩
  have f : fl σ1 182 1 = 1 := by rw [hσ1, fl_sfn _ _ _ _ (by decide), fl_sfs]
  rw [← hσ1] at a ⊢
  have b : Rd_app (n + 1) (Rd_argC (n + 1) 24) (Rd_funC (n + 1) 24) π σ = some (π, σ1, 0) := by
    rw [Rd_app, h6, grd_t (by decide), if_neg (by decide), a, Option.bind_some]; rfl
  have c : Rd_sum (n + 1) (Rd_argC (n + 1) 24) (Rd_funC (n + 1) 24) π σ = some (π, σ1, 0) := by
    rw [Rd_sum, b, Option.bind_some]
    simp only
    rw [Rd_sum_4, Rd_sum_7, grd_t (by decide), if_pos (by decide), f, grd_t (by decide), if_neg (by decide)]
  have d : Rd_cat (n + 1) (Rd_argC (n + 1) 24) (Rd_funC (n + 1) 24) π σ = some (π, σ1, 0) := by
    rw [Rd_cat, c, Option.bind_some]
    simp only
    rw [Rd_cat_4, f, grd_t (by decide), if_neg (by decide)]
  rw [Rd_exp, d, Option.bind_some]
  simp only
  rw [Rd_exp_4, f, grd_t (by decide), if_neg (by decide)]
/-- lines' ends behind it -/
theorem hw_lp {π : Sh} (hN : 3000 ≤ N) : ∀ (m n n' : Nat) (σ τ : St) (x : Int), lf τ ≤ m → m < n → m < n' → 0 ≤ x → x ≤ fl τ 4 0 → TKr σ τ → fl σ 182 1 = 0 → fl τ 11 0 = 0 → ∃ σ' τ', Rd_wholeExp_25 N n π σ x = Rd_wholeExp_67 N π σ' ∧ (∀ x1, r_hang_20 N n' τ x1 = r_hang_42 N τ' x1) ∧ SFc σ σ' ∧ SFr τ τ' ∧ TKr σ' τ' := by
  intro m
  induction m with
  | zero =>
    intro n n' σ τ x h1 h2 h3 h4 h5 t f1 f2
    have := t.lf
    omega
  | succ m ih =>
    intro n n' σ τ x h1 h2 h3 h4 h5 t f1 f2
    obtain ⟨n, rfl⟩ : ∃ q, n = q + 1 := ⟨n - 1, by omega⟩
    obtain ⟨n', rfl⟩ : ∃ q, n' = q + 1 := ⟨n' - 1, by omega⟩
    have kd := t.kd
    have t4 := t.2.2.2.1
    have sz := t.1.2.2.1
    by_cases k : fl σ 185 1 = 10
    · have k1 : fl τ 3 0 = 1 := kd.2.2.2.2.2.2.1.1 k
      have t4' : fl τ 4 0 < fl τ 1 0 := by
        rcases t.2.2.2.2.2 with q | q | ⟨q1, q2, e, q3, q4, q5, -⟩ | q | q | q | q | ⟨b, q1, q2, q3, q4, q5, q6⟩ <;> omega
      obtain ⟨σ1, τ1, z1, z2, z3, z4, z5, z6, z7, -⟩ := both_advance (N := N) (π := π) hN t (by omega)
      have l1 : lf τ1 + 1 ≤ lf τ := by unfold lf; rw [z4.1 1 0 (by omega)]; omega
      obtain ⟨σ2, τ2, q1, q2, q3, q4, q5⟩ := ih n n' σ1 τ1 (x + 1) (by omega) (by omega) (by omega) (by omega) (by omega) z5 (by rw [z3.1 182 1 (by omega)]; exact f1) (by rw [z4.1 11 0 (by omega)]; exact f2)
      refine ⟨σ2, τ2, ?_, fun x1 => ?_, z3.tr q3, z4.tr q4, q5⟩
      · rw [Rd_wholeExp_25, grd_t (by exact ⟨by omega, by omega⟩), if_pos (by omega), f1, grd_t (by decide), if_pos rfl, k, grd_t (by decide), if_pos rfl, z1, Option.bind_some]
        exact q1
      · rw [r_hang_20, f2, grd_t (by decide), if_pos rfl, k1, grd_t (by decide), if_pos rfl, z2, Option.bind_some]
        exact q2 x1
    · have k1 : ¬ fl τ 3 0 = 1 := fun q => k (kd.2.2.2.2.2.2.1.2 q)
      refine ⟨σ, τ, ?_, fun x1 => ?_, SFc.rf _, SFr.rf _, t⟩
      · rw [Rd_wholeExp_25, grd_t (by exact ⟨by omega, by omega⟩)]
        by_cases c : x < 2000
        · rw [if_pos c, f1, grd_t (by decide), if_pos rfl, grd_t kd.1, if_neg k]
        · rw [if_neg c]
      · rw [r_hang_20, f2, grd_t (by decide), if_pos rfl, grd_t (by exact ⟨by omega, by omega⟩), if_neg k1]
def WHr (N : Nat) (dl : List (Int × Int)) (π : Sh) (σ τ : St) (π' : Sh) (σ' τ' : St) : Prop := ∃ (o n w z : Int) (L : List Stq) (Kn : List Int) (k : Nat) (b : Bse), (BDy (fun _ => False) π' σ' τ' (nn π) 0 L Kn ∧ fl σ' 25 (nn π) = o) ∧ (bV b = fl τ 16 0 ∧ bP b = 0 ∧ EXq N b τ' (fl τ 16 0) (fl τ' 16 0) Kn 0 L n o w z k) ∧ (fl τ' 46 0 = n ∧ w ≤ 1300 ∧ z ≤ 1300 ∧ k ≤ 99000 ∧ 0 ≤ w ∧ 0 ≤ z) ∧ (∀ y ∈ L, y.1 = 99 → (y.2.2.1, y.2.2.2.1) ∈ dl ∧ (y.2.2.2.2.2.2.2.length : Int) = el τ 81 y.2.2.2.1) ∧ (fl τ' 11 0 = 0 ∧ fl σ' 182 1 = 0) ∧ ((nn π' : Int) ≤ nn π + 12 * lf τ + 4 ∧ (sw π' : Int) ≤ sw π + 174 * lf τ + 113 ∧ 1 ≤ fl τ 1 0)
set_option maxHeartbeats 6000000 in
theorem both_whole {π : Sh} {σ τ : St} {dl : List (Int × Int)} (hN : 30000001 ≤ N) (hS : SHs π) (t : TKr σ τ) (f1 : fl σ 182 1 = 0) (f2 : fl τ 11 0 = 0) (h184 : fl σ 184 1 = 0) (h38 : fl τ 38 0 = 0) (hF : FNc σ ∧ FNr τ ∧ WTr τ) (h42 : fl σ 1 42 < nn π) (hL : LD π σ 43 (dl.map Prod.fst)) (h36 : fl τ 36 0 = dl.length) (hA : At (fun i (e : Int × Int) => el τ 77 i = e.2) 0 dl) (hD : ∀ e ∈ dl, DFe (π, σ, τ, 0, 0) e ∧ e.2 < fl τ 28 0) (h16 : 0 ≤ fl τ 16 0 ∧ fl τ 16 0 + 3 * lf τ + 200 ≤ 32768) : ∃ π' σ' τ', Rd_wholeExp N π σ = some (π', σ', (nn π : Int)) ∧ (∀ x1, Option.bind (r_readExp N τ) (fun r6 => r_hang_20 N N r6 x1) = r_hang_65 N τ' x1) ∧ LCf π σ π' σ' ∧ SHs π' ∧ LRf τ τ' ∧ ((FLT σ' τ' ∧ (nn π' : Int) ≤ nn π + 12 * lf τ + 1244 ∧ (sw π' : Int) ≤ sw π + 174 * lf τ + 13185 ∧ (fl τ 1 0 = 0 → (nn π' : Int) ≤ nn π + 4 ∧ (sw π' : Int) ≤ sw π + 17)) ∨ WHr N dl π σ τ π' σ' τ') := by
  have h56 := hS.1
  have kd := t.kd
  have l0 := t.lf
  obtain ⟨π1, σa, n1, n2, n3, n4, n5, n6, ⟨d1, d2, d3, d4, d5, d6, d7⟩, ⟨d8, d9⟩, d10, d11⟩ := c_newdef (N := N) (π := π) (σ := σ) (nm := 0)
  obtain ⟨σ1, hσ1⟩ : ∃ σ1, σ1 = sf σa 144 44 (nn π) := ⟨_, rfl⟩
  have sa : ∀ (f : Nat) (i : Int), ¬ (i = 44 ∧ f = 144) → fl σ1 f i = fl σa f i := fun f i hx => by rw [hσ1, fl_sf, if_neg (by omega)]
  have ra : ∀ a j : Int, el σ1 a j = el σa a j := fun a j => by rw [hσ1]; rfl
  have i3 : fl σ1 144 44 = nn π := by rw [hσ1, fl_sfs]
  have c1 : ext π π1 := n2
  have hS1 : SHs π1 := hS.ext c1
  have c4 : ∀ (f : Nat) (i : Int), i < nn π → ¬ (i = 1 ∧ 182 ≤ f ∧ f ≤ 190) → ¬ (i = 44 ∧ f = 144) → fl σ1 f i = fl σ f i := fun f i hi _ hx => by rw [sa f i hx, n5 f i hi]
  have c4' : ∀ (f : Nat) (i : Int), i < nn π → ¬ (i = 44 ∧ f = 144) → fl σ1 f i = fl σ f i := fun f i hi hx => by rw [sa f i hx, n5 f i hi]
  have c5 : fl σ1 184 1 = fl σ 184 1 := c4' 184 1 (by omega) (by omega)
  have c6 : ∀ a j : Int, a < nn π → el σ1 a j = el σ a j := fun a j ha => by rw [ra, n6 a j ha]
  have lc1 : LCf π σ π1 σ1 := ⟨c1, fun f i hi _ x y => c4 f i hi x (by omega), fun a j _ ha => c6 a j ha⟩
  have i1 : ob π1 (nn π) 1 := d1
  have i2 : (56 : Int) ≤ nn π := by omega
  obtain ⟨p, hp⟩ : ∃ p : Int, p = 0 := ⟨_, rfl⟩
  have i4 : fl σ1 22 (nn π) = p := by rw [sa 22 _ (by omega), hp]; exact d4
  have i5 : fl τ 38 0 = p := by rw [hp]; exact h38
  have i6 : 0 ≤ p := by omega
  have i7 : p ≤ 4 := by omega
  have e21 : fl σ1 21 (nn π) = nn π + 1 := by rw [sa 21 _ (by omega)]; exact d3
  have i8 : ob π1 (fl σ1 21 (nn π)) 23 := by rw [e21]; exact d8
  have i9 : ln π1 (fl σ1 21 (nn π)) = 4 := by rw [e21]; exact d9
  have i11 : ∀ i : Int, 0 ≤ i → i < p → RNm (el σ1 (fl σ1 21 (nn π)) i) (el τ 76 i) (el τ 75 i) := fun i x y => by omega
  have i14 : fl σ1 182 1 = 0 := by rw [c4' 182 1 (by omega) (by omega)]; exact f1
  have i15 : fl τ 11 0 = 0 := f2
  have i13 : TKr σ1 τ := t.cg (fun f hf => c4' f 1 (by omega) (by omega)) (fun j => c6 2 j (by omega)) (fun _ _ => rfl) (fun _ => rfl)
  have i16 : FNc σ1 ∧ FNr τ := by
    refine ⟨?_, hF.2.1⟩
    have gg := hF.1
    unfold FNc at gg ⊢
    exact gg.mono (fun i e _ _ _ hq => by rw [c6 45 i (by omega)]; exact hq)
  have p6 : fl σ1 23 (nn π) = nn π + 2 := by rw [sa 23 _ (by omega)]; exact d5
  have p7 : fl σ1 24 (nn π) = nn π + 3 := by rw [sa 24 _ (by omega)]; exact d6
  have p8 : ob π1 (nn π + 2) 0 ∧ fl σ1 1 (nn π + 2) = -1 ∧ fl σ1 2 (nn π + 2) = 0 := ⟨d10.1, by rw [sa 1 _ (by omega)]; exact d10.2.1, by rw [sa 2 _ (by omega)]; exact d10.2.2⟩
  have p9 : ob π1 (nn π + 3) 0 ∧ fl σ1 1 (nn π + 3) = -1 ∧ fl σ1 2 (nn π + 3) = 0 := ⟨d11.1, by rw [sa 1 _ (by omega)]; exact d11.2.1, by rw [sa 2 _ (by omega)]; exact d11.2.2⟩
  have p10 : nn π1 = nn π + 4 := n3
  obtain ⟨τ1, hτ1⟩ : ∃ τ1, τ1 = τ := ⟨_, rfl⟩
  have r1 : ∀ (f : Nat) (i : Int), ¬ (3 ≤ f ∧ f ≤ 12) → f ≠ 38 → fl τ1 f i = fl τ f i := fun f i _ _ => by rw [hτ1]
  have r2 : ∀ a j : Int, a ≠ 75 → a ≠ 76 → ¬ ((a = 82 ∨ a = 83) ∧ j = fl τ 28 0) → el τ1 a j = el τ a j := fun a j _ _ _ => by rw [hτ1]
  rw [← hτ1] at i5 i11 i15 i13 i16
  have v28 : fl τ1 28 0 = fl τ 28 0 := r1 28 0 (by omega) (by decide)
  have v16 : fl τ1 16 0 = fl τ 16 0 := r1 16 0 (by omega) (by decide)
  have v36 : fl τ1 36 0 = fl τ 36 0 := r1 36 0 (by omega) (by decide)
  have v1 : fl τ1 1 0 = fl τ 1 0 := r1 1 0 (by omega) (by decide)
  obtain ⟨τs, hτs⟩ : ∃ τs, τs = sf (sf τ1 41 0 0) 13 0 0 := ⟨_, rfl⟩
  have us : ∀ (f : Nat) (i : Int), f ≠ 41 → f ≠ 13 → fl τs f i = fl τ1 f i := fun f i x y => by rw [hτs, fl_sfn _ _ _ _ y, fl_sfn _ _ _ _ x]
  have ws : ∀ a j : Int, el τs a j = el τ1 a j := fun a j => by rw [hτs]; rfl
  have s13 : fl τs 13 0 = 0 := by rw [hτs, fl_sfs]
  have ts : TKr σ1 τs := i13.cg (fun _ _ => rfl) (fun _ => rfl) (fun f hf => us f 0 (by omega) (by omega)) (fun j => ws 97 j)
  have lfs : lf τs = lf τ := by unfold lf; rw [us 1 0 (by decide) (by decide), us 4 0 (by decide) (by decide), hτ1]
  have a43 := hL.a56
  have s43 : fl σ1 1 43 = fl σ 1 43 ∧ fl σ1 2 43 = fl σ 2 43 := ⟨c4 1 43 (by omega) (by omega) (by omega), c4 2 43 (by omega) (by omega) (by omega)⟩
  have ld1 : LD π1 σ1 43 (dl.map Prod.fst) := hL.keep c1 s43 (fun h0 j => c6 _ j (by rcases hL.ar with q | q <;> omega))
  have lm : (dl.map Prod.fst).length = dl.length := List.length_map ..
  obtain ⟨b, hb⟩ : ∃ b : Bse, b = (π1, σ1, τs, (nn π : Int), p) := ⟨_, rfl⟩
  have bd : bD b = nn π := by rw [hb]; rfl
  have bp : bP b = p := by rw [hb]; rfl
  have bx : bX b = nn π + 2 := by rw [hb]; exact p6
  have by' : bY b = nn π + 3 := by rw [hb]; exact p7
  have bv : bV b = fl τ 16 0 := by
    have : bV b = fl τs 16 0 := by rw [hb]; rfl
    rw [this, us 16 0 (by decide) (by decide), v16]
  have e143 : fl σ1 1 43 = fl σ 1 43 := s43.1
  have hc : CTX b dl := by
    refine ⟨?_, by rw [bd, hb]; exact ⟨i2, i1.2.1⟩, by rw [bx, by', hb]; show 56 ≤ (nn π : Int) + 2 ∧ (nn π : Int) + 2 < nn π1 ∧ _ ∧ (nn π : Int) + 3 < nn π1 ∧ _; omega, by rw [bx, by', hb]; show fl σ1 1 (nn π + 2) < 0 ∧ fl σ1 1 (nn π + 3) < 0; omega, ?_, ?_, ?_, ?_, ?_, by rw [bv]; exact h16.1⟩
    · rw [hb]
      refine ⟨i16.1, ?_⟩
      have gg := i16.2
      unfold FNr at gg ⊢
      exact gg.mono (fun i e _ _ _ hq => by show el τs 96 i = e; rw [ws]; exact hq)
    · rw [bp, bd, hb]
      refine ⟨⟨i6, i7⟩, i4, ?_, i8, i9, fun i x y => ?_⟩
      · show fl τs 38 0 = p
        rw [us 38 0 (by decide) (by decide)]; exact i5
      · show RNm (el σ1 (fl σ1 21 (nn π)) i) (el τs 76 i) (el τs 75 i)
        rw [ws, ws]; exact i11 i x y
    · rw [hb]
      refine ⟨ld1.1, ?_, ?_, ?_⟩
      · show fl σ1 2 43 = _
        rw [ld1.2.1, lm]
      · show fl τs 36 0 = _
        rw [us 36 0 (by decide) (by decide), v36]; exact h36
      · have := ld1.2.2.1; omega
    · intro hne
      rw [hb]
      show ob π1 (fl σ1 1 43) 27 ∧ (dl.length : Int) ≤ ln π1 (fl σ1 1 43)
      rcases ld1.2.2.2.1 with q | q
      · have := q.2
        rw [List.map_eq_nil_iff] at this
        exact absurd this hne
      · exact ⟨q.1, by have := q.2.2.1; omega⟩
    · rw [hb]
      show At (fun i (e : Int × Int) => el σ1 (fl σ1 1 43) i = e.1 ∧ el τs 77 i = e.2) 0 dl
      have q77 : At (fun i (e : Int × Int) => el τs 77 i = e.2) 0 dl := hA.mono (fun i e _ _ _ hq => by rw [ws, r2 77 i (by decide) (by decide) (by omega)]; exact hq)
      rcases ld1.2.2.2.1 with q | q
      · have := q.2
        rw [List.map_eq_nil_iff] at this
        rw [this]; trivial
      · have qq := q.2.2.2.2.2
        have um : ∀ (l : List (Int × Int)) (a : Int), At (fun i D => el σ1 (fl σ1 1 43) i = D) a (l.map Prod.fst) → At (fun i (e : Int × Int) => el σ1 (fl σ1 1 43) i = e.1) a l := by
          intro l
          induction l with
          | nil => intro a _; trivial
          | cons x l ih => intro a hx; exact ⟨hx.1, ih (a + 1) hx.2⟩
        exact At.imp2 (fun i e _ _ x y => ⟨x, y⟩) (um dl 0 qq) q77
    · intro e he
      obtain ⟨⟨g1, g2, g3, g4, g5, g6⟩, gV⟩ := hD e he
      simp only at g1 g2 g3 g4 g5 g6
      have l := g1.2.1
      have eo : e.1 ≠ 1 ∧ e.1 ≠ 44 := by
        refine ⟨fun q => ?_, fun q => ?_⟩
        · rw [q] at g1
          have q9 : ob π 1 9 := SHs.ob hS (i := 1) (n := 0) (by decide) rfl
          have := q9.2.2
          have := g1.2.2
          omega
        · rw [q] at g1
          have q9 : ob π 44 7 := SHs.ob hS (i := 44) (n := 0) (by decide) rfl
          have := q9.2.2
          have := g1.2.2
          omega
      have fe : ∀ f : Nat, fl σ1 f e.1 = fl σ f e.1 := fun f => c4 f e.1 l (by omega) (by omega)
      have te : ∀ a : Int, 79 ≤ a → a ≤ 83 → el τs a e.2 = el τ a e.2 := fun a x y => by rw [ws, r2 a e.2 (by omega) (by omega) (by omega)]
      rw [hb]
      unfold DFe
      simp only
      rw [fe, fe, fe, te 83 (by decide) (by decide), te 82 (by decide) (by decide), te 81 (by decide) (by decide), te 79 (by decide) (by decide)]
      refine ⟨g1.ext c1, g2, g3, g4, g5, fun h0 => ⟨(g6 h0).1.ext c1, (g6 h0).2.growP ((lc1.kc h56).hx h56 hL.ar).hp ?_⟩⟩
      exact TX.eq (by rw [us 48 0 (by decide) (by decide), r1 48 0 (by omega) (by decide)]) (by rw [us 61 0 (by decide) (by decide), r1 61 0 (by omega) (by decide)]) (fun a j x y => by rw [ws, r2 a j (by omega) (by omega) (by omega)])
  have bdy : BDy (fun _ => False) π1 σ1 τs (bD b) (bP b) [] [] := by
    rw [bd, bp]
    unfold BDy
    rw [p6, p7]
    refine ⟨⟨i1, i4, i6, i7⟩, ?_, ?_, by omega, fun h => by omega, ⟨by rw [c4 1 42 (by omega) (by omega) (by omega)]; omega, by rw [e143]; rcases hL.ar with q | q <;> omega⟩, ⟨by omega, by omega, i2⟩, fun x hx => absurd hx id, ⟨id, id, id⟩, id, id⟩
    · exact ⟨⟨p8.1, p8.2.2, by simp, fun h => absurd rfl h, by omega, by omega, fun h => absurd rfl h⟩, Or.inl ⟨rfl, by omega⟩⟩
    · exact ⟨⟨p9.1, p9.2.2, by simp, fun h => absurd rfl h, by omega, by omega, fun h => absurd rfl h⟩, Or.inl ⟨rfl, by omega⟩⟩
  have xe : XEs b (fun _ => False) π1 σ1 τs [] [] := by
    refine ⟨hS1, ts, ⟨i14, by rw [us 11 0 (by decide) (by decide)]; exact i15⟩, ⟨by rw [c5, h184, s13], by omega, by omega⟩, by rw [bd]; exact i3, bdy, ?_, ?_, ?_, fun x hx => absurd hx id⟩
    · rw [hb]; exact EFt.rf _ _ _ _
    · rw [hb]; exact RDr.rf _ _ _
    · rw [bv, us 16 0 (by decide) (by decide), v16]; exact Int.le_refl _
  have hW : WTr b.2.2.1 := by
    rw [hb]
    intro f x y
    show el τs 95 f = _
    rw [ws, r2 95 f (by decide) (by decide) (by omega)]
    exact hF.2.2 f x y
  have sl : fl τs 16 0 = fl τ 16 0 := by rw [us 16 0 (by decide) (by decide), v16]
  have ls := ts.lf
  have pre : PRE τs [] [] := ⟨by rw [sl]; omega, by simp only [List.length_nil]; omega, by simp only [List.length_nil]; omega⟩
  rw [hτs] at xe pre
  obtain ⟨π2, σ2, τ2, o, tt, q1, q2, q3, q4, q5⟩ := exp_top hN hc hW xe pre
  rw [← hτs] at xe pre q4 q5
  have x2 := q3.1
  have ob2 : ob π2 (nn π) 1 := i1.ext x2
  have hS2 : SHs π2 := hS1.ext x2
  -- what was left alone
  have lc2 : LCf π σ π2 (sf σ2 25 (nn π) o) := by
    refine ⟨c1.tr x2, fun f i hi x y z => ?_, fun a j a0 ha => ?_⟩
    · rw [fl_sf, if_neg (by omega), q3.2.1 f i (by omega) x y (by omega) (by rw [bx, by']; omega)]
      exact lc1.2.1 f i hi x y z
    · have e1 : fl σ1 1 (bX b) = -1 := by rw [bx]; exact p8.2.1
      have e2 : fl σ1 1 (bY b) = -1 := by rw [by']; exact p9.2.1
      rw [el_sf, q3.2.2.1 a j (by omega) (by omega) (by omega)]
      exact c6 a j ha
  have q4' := q4
  rw [sl] at q4'
  have lr2 : LRf τ τ2 := by
    refine ⟨fun f i x y z w g h => ?_, fun a j x y z => ?_, fun a j x y z => ?_⟩
    · rw [q4.1 f i (by omega) y w g h, us f i w (by omega), r1 f i (by omega) z]
    · rw [q4.2.1 a j (by omega) (by omega), ws, r2 a j (by omega) (by omega) z]
    · rw [q4'.2.2.1 a j x y z, ws, r2 a j (by omega) (by omega) (by omega)]
  have g3f : ∀ (f : Nat) (i : Int), f ≠ 25 → fl (sf σ2 25 (nn π) o) f i = fl σ2 f i := fun f i x => fl_sfn _ _ _ _ x
  have start : Rd_wholeExp N π σ = Rd_wholeExp_25 N N π2 (sf σ2 25 (nn π) o) 0 := by
    rw [Rd_wholeExp, Rd_wholeExp_4, n1, Option.bind_some, grd_t (by exact ob_nO π 1 7)]
    simp only
    rw [Rd_wholeExp_9, bnd, ← hσ1, q1, Option.bind_some]
    simp only
    rw [Rd_wholeExp_20, grd_t ob2]
  rw [hτ1] at q2
  obtain ⟨n, hn⟩ : ∃ n, N = n + 1 := ⟨N - 1, by omega⟩
  clear kd a43 d1 d2 d3 d4 d5 d6 d7 d8 d9 d10 d11 i4 i5 i6 i7 e21 i8 i9 i11 i13 i15 i16 p6 p7 v28 v16 v36 v1 s43 ld1 lm e143 bdy hW pre q4'
  rcases q5 with ⟨⟨-, ⟨τt, g1⟩, ⟨g2, g3, g4⟩, g5, L, Kn, g6, g7, g8⟩, ⟨g9, g10⟩, -⟩ | ⟨seg, kn, nd, w, z, k, g1, ⟨g2, g3, g4⟩, g5, g6, g7, g8, ⟨⟨w0, g9⟩, ⟨z0, g10⟩, g11, g12, g13, g14⟩, ⟨g15, g16⟩, g17, g18⟩
  · -- a fault
    have kt := g1.kd
    have f182 : fl (sf σ2 25 (nn π) o) 182 1 = fl τ2 11 0 := by rw [g3f 182 1 (by decide)]; exact g2
    have f144 : fl (sf σ2 25 (nn π) o) 144 44 = nn π := by rw [g3f 144 44 (by decide), g5, bd]
    have fin : Rd_wholeExp_67 N π2 (sf σ2 25 (nn π) o) = some (π2, sf σ2 25 (nn π) o, (nn π : Int)) := by
      rw [Rd_wholeExp_67, grd_t (by rw [g3f 185 1 (by decide)]; exact kt.1)]
      by_cases c : fl (sf σ2 25 (nn π) o) 185 1 = 6
      · rw [if_pos c, Rd_wholeExp_94, f144]
      · rw [if_neg c, Sc_fail, grd_t (by rw [f182]; exact ⟨by omega, by omega⟩), if_neg (by omega), Option.bind_some, Rd_wholeExp_94, f144]
    refine ⟨π2, sf σ2 25 (nn π) o, τ2, ?_, fun x1 => ?_, lc2, hS2, lr2, Or.inl ⟨⟨f182, by rw [g3f 183 1 (by decide)]; exact g3, g4⟩, ?_, ?_, fun s0 => ?_⟩⟩
    · rw [start, hn, Rd_wholeExp_25, grd_t (by decide), if_pos (by decide), ← hn, f182, grd_t (by exact ⟨by omega, by omega⟩), if_neg (by omega)]
      exact fin
    · rw [q2, Option.bind_some]
      rw [hn, r_hang_20, ← hn, grd_t (by exact ⟨by omega, by omega⟩), if_neg (by omega), r_hang_42, grd_t (by exact ⟨by omega, by omega⟩), if_neg (by omega)]
    · rw [s13] at g9; omega
    · have e1 : cpc π1 σ1 (bX b) = 0 := by unfold cpc; rw [bx, p8.2.1]; rfl
      have e2 : cpc π1 σ1 (bY b) = 0 := by unfold cpc; rw [by', p9.2.1]; rfl
      have e3 := g6.2.1.cp
      have e4 := g6.2.2.1.cp
      obtain ⟨z1, z2⟩ := EFt.x hc xe q3
      rw [z1] at e3
      rw [z2] at e4
      rw [s13] at g7 g10
      simp only [List.length_nil] at g7 g8
      omega
    · have k6 : fl σ 185 1 = 6 := by
        have t4 := t.2.2.2.1
        rcases t.2.2.2.2.2 with q | q | ⟨q1, q2, e, q3, q4, q5, -⟩ | q | q | q | q | ⟨b, q1, q2, q3, q4, q5, q6⟩ <;> omega
      have ee := exp_end (N := N) (π := π1) (σ := σ1) (by omega) (by rw [c4' 185 1 (by omega) (by omega)]; exact k6) i14
      rw [q1] at ee
      injection ee with ee
      injection ee with ee1 ee2
      rw [ee1]
      omega
  · -- it was read
    have bdy2 := g1.2.2.2.2.2.1
    rw [List.nil_append, List.nil_append] at bdy2
    have t2 := g1.2.1
    have l2 := t2.lf
    have e1 : cpc π1 σ1 (bX b) = 0 := by unfold cpc; rw [bx, p8.2.1]; rfl
    have e2 : cpc π1 σ1 (bY b) = 0 := by unfold cpc; rw [by', p9.2.1]; rfl
    have e3 := bdy2.2.1.cp
    have e4 := bdy2.2.2.1.cp
    obtain ⟨z1, z2⟩ := EFt.x hc xe q3
    rw [z1] at e3
    rw [z2] at e4
    have nb : (nn π2 : Int) ≤ nn π + 12 * lf τ + 4 := by omega
    have sb : (sw π2 : Int) ≤ sw π + 174 * lf τ + 113 := by omega
    have t3 : TKr (sf σ2 25 (nn π) o) τ2 := t2.cg (fun f hf => g3f f 1 (by omega)) (fun _ => rfl) (fun _ _ => rfl) (fun _ => rfl)
    have h182 : fl (sf σ2 25 (nn π) o) 182 1 = 0 := by rw [g3f 182 1 (by decide)]; exact g1.2.2.1.1
    have h11 : fl τ2 11 0 = 0 := g1.2.2.1.2
    obtain ⟨σ3, τ3, a1, a2, a3, a4, a5⟩ := hw_lp (N := N) (π := π2) (by omega) 2001 N N (sf σ2 25 (nn π) o) τ2 0 (by omega) (by omega) (by omega) (Int.le_refl _) (by have := t2.2.2.2.1; omega) t3 h182 h11
    have f3 : ∀ (f : Nat) (i : Int), ¬ (i = 1 ∧ 185 ≤ f ∧ f ≤ 190) → fl σ3 f i = fl (sf σ2 25 (nn π) o) f i := fun f i hi => a3.1 f i hi
    have f144 : fl σ3 144 44 = nn π := by rw [f3 144 44 (by omega), g3f 144 44 (by decide), g1.2.2.2.2.1, bd]
    have h182' : fl σ3 182 1 = 0 := by rw [f3 182 1 (by omega)]; exact h182
    have h11' : fl τ3 11 0 = 0 := by rw [a4.1 11 0 (by omega)]; exact h11
    have lc3 : LCf π σ π2 σ3 := ⟨lc2.1, fun f i hi x y z => by rw [f3 f i (by omega)]; exact lc2.2.1 f i hi x y z, fun a j x y => by rw [a3.2]; exact lc2.2.2 a j x y⟩
    have lr3 : LRf τ τ3 := ⟨fun f i x y z w g h => by rw [a4.1 f i (by omega)]; exact lr2.1 f i x y z w g h, fun a j x y z => by rw [a4.2]; exact lr2.2.1 a j x y z, fun a j x y z => by rw [a4.2]; exact lr2.2.2 a j x y z⟩
    have kd3 := a5.kd
    have s1z : 1 ≤ fl τ 1 0 := by
      have q : 2 ≤ lf τ := by omega
      have t4 := t.2.2.2.1
      unfold lf at q
      omega
    by_cases ke : fl σ3 185 1 = 6
    · refine ⟨π2, σ3, τ3, ?_, fun x1 => ?_, lc3, hS2, lr3, Or.inr ⟨o, nd, w, z, seg, kn, k, b, ⟨?_, ?_⟩, ⟨bv, by rw [bp, hp], ?_⟩, ⟨?_, by omega, by omega, by omega, w0, z0⟩, ?_, ⟨h11', h182'⟩, nb, sb, s1z⟩⟩
      · rw [start, a1, Rd_wholeExp_67, grd_t kd3.1, if_pos ke, Rd_wholeExp_94, f144]
      · rw [q2, Option.bind_some, a2, r_hang_42, h11', grd_t (by decide), if_pos rfl, grd_t (by exact ⟨by omega, by omega⟩), if_pos (kd3.2.2.2.2.2.2.2.1 ke)]
      · have sD : ∀ (f : Nat) (i : Int), 56 ≤ i → f ≠ 25 → fl σ3 f i = fl σ2 f i := fun f i x y => by rw [f3 f i (by omega), g3f f i y]
        rw [bd, bp, hp] at bdy2
        have e42 : ∀ (f : Nat) (x : Int), f = 1 ∨ f = 2 → fl σ3 f x = fl σ2 f x := fun f x hf => by rw [f3 f x (by omega), g3f f x (by omega)]
        exact bdy2.mv ⟨ext.rf _, fun f i hf h3 hi => by rw [f3 f i (by unfold inF at hf; omega), g3f f i (by omega)], fun a j _ _ _ => by rw [a3.2]; rfl⟩ (TX.eq (a4.1 48 0 (by omega)) (a4.1 61 0 (by omega)) (fun a j _ _ => a4.2 a j)) ⟨sD 22 _ i2 (by decide), sD 23 _ i2 (by decide), sD 24 _ i2 (by decide)⟩ (fun f x hf _ => e42 f x hf) (fun x j _ _ => by rw [a3.2]; rfl)
      · rw [f3 25 _ (by omega), fl_sfs]
      · have := g7
        rw [sl, List.nil_append] at this
        rw [a4.1 16 0 (by omega)]
        exact this.cg (fun a i _ _ _ _ _ => a4.2 a i) (List.prefix_refl _) ⟨Int.le_refl _, Int.le_refl _⟩ ⟨Int.le_refl _, Int.le_refl _, Nat.le_refl _⟩
      · rw [a4.1 46 0 (by omega)]; exact g3
      · intro y hy h99
        obtain ⟨u1, u2, -⟩ := g8 y hy h99
        refine ⟨u1, ?_⟩
        rw [u2, hb]
        show el τs 81 _ = _
        have gV := (hD _ u1).2
        rw [ws, r2 81 _ (by decide) (by decide) (by omega)]
    · -- something else behind it
      have k0 : ¬ fl τ3 3 0 = 0 := fun q => ke (kd3.2.2.2.2.2.2.2.2 q)
      refine ⟨π2, sf (sf σ3 182 1 1) 183 1 (fl σ3 186 1), sf (sf τ3 11 0 1) 12 0 (fl τ3 4 0), ?_, fun x1 => ?_, ⟨lc3.1, fun f i hi x y z => by rw [fl_sf, if_neg (by omega), fl_sf, if_neg (by omega)]; exact lc3.2.1 f i hi x y z, fun a j x y => lc3.2.2 a j x y⟩, hS2, ⟨fun f i x y z w g h => by rw [fl_sfn _ _ _ _ (by omega), fl_sfn _ _ _ _ (by omega)]; exact lr3.1 f i x y z w g h, fun a j x y z => lr3.2.1 a j x y z, fun a j x y z => lr3.2.2 a j x y z⟩, Or.inl ⟨⟨?_, ?_, ?_⟩, by omega, by omega, fun q => by omega⟩⟩
      · rw [start, a1, Rd_wholeExp_67, grd_t kd3.1, if_neg ke, Sc_fail, h182', grd_t (by decide), if_pos rfl, Option.bind_some, Rd_wholeExp_94, fl_sfn _ _ _ _ (by decide), fl_sfn _ _ _ _ (by decide), f144]
      · rw [q2, Option.bind_some, a2, r_hang_42, h11', grd_t (by decide), if_pos rfl, grd_t (by exact ⟨by omega, by omega⟩), if_neg k0, r_fail, h11', grd_t (by decide), if_pos rfl, Option.bind_some]
      · rw [fl_sfn _ _ _ _ (by decide), fl_sfs, fl_sfn _ _ _ _ (by decide), fl_sfs]
      · rw [fl_sfs, fl_sfs]; exact a5.2.1
      · rw [fl_sfn _ _ _ _ (by decide), fl_sfs]; decide
end WH9
