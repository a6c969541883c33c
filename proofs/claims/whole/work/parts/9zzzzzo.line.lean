/-! a line is read -/
section LN9
variable {N : Nat}
theorem KCf.tr {π π1 π2 : Sh} {σ σ1 σ2 : St} (h : KCf π σ π1 σ1) (k : KCf π1 σ1 π2 σ2) : KCf π σ π2 σ2 := by
  have e := h.1.1
  refine h.step k.1 (fun f i hi hx => k.2.1 f i (by omega) hx) (fun a j a0 x y z => k.2.2.1 a j a0 (by omega) y (by rcases h.2.2.2 with q | q <;> omega)) ?_
  rcases k.2.2.2 with q | q
  · exact Or.inl q
  · exact Or.inr (by omega)
/-- what the reading of a line leaves alone -/
def LCf (π : Sh) (σ : St) (π' : Sh) (σ' : St) : Prop := ext π π' ∧ (∀ (f : Nat) (i : Int), i < nn π → ¬ (i = 50 ∧ 221 ≤ f ∧ f ≤ 225) → ¬ (i = 1 ∧ 182 ≤ f ∧ f ≤ 190) → ¬ (i = 44 ∧ 144 ≤ f ∧ f ≤ 146) → fl σ' f i = fl σ f i) ∧ ∀ a j : Int, 0 ≤ a → a < nn π → el σ' a j = el σ a j
def LRf (τ τ' : St) : Prop := (∀ (f : Nat) (i : Int), ¬ (2 ≤ f ∧ f ≤ 13) → f ≠ 16 → f ≠ 38 → f ≠ 41 → f ≠ 46 → f ≠ 47 → fl τ' f i = fl τ f i) ∧ (∀ a j : Int, ¬ (71 ≤ a ∧ a ≤ 76) → ¬ (84 ≤ a ∧ a ≤ 94) → ¬ ((a = 82 ∨ a = 83) ∧ j = fl τ 28 0) → el τ' a j = el τ a j) ∧ ∀ a j : Int, 84 ≤ a → a ≤ 94 → j < fl τ 16 0 → el τ' a j = el τ a j
theorem LCf.kc {π π' : Sh} {σ σ' : St} (h : LCf π σ π' σ') (h56 : 56 ≤ nn π) : KCf π σ π' σ' := ⟨h.1, fun f i hi hx => h.2.1 f i hi (by unfold xC at hx; omega) (by unfold xC at hx; omega) (by unfold xC at hx; omega), fun a j a0 x _ _ => h.2.2 a j a0 x, Or.inl (h.2.1 1 43 (by omega) (by omega) (by omega) (by omega))⟩
theorem LRf.kr {τ τ' : St} (h : LRf τ τ') : KRf τ τ' := ⟨fun f i x => h.1 f i (by unfold xR at x; omega) (by unfold xR at x; omega) (by unfold xR at x; omega) (by unfold xR at x; omega) (by unfold xR at x; omega) (by unfold xR at x; omega), fun a j x y => h.2.1 a j (by omega) (by omega) (by omega)⟩
theorem LSc.cp {α : Type} {π : Sh} {σ : St} {x : Int} {R : Int → α → Prop} {l : List α} (h : LSc π σ x R l) : 0 ≤ cpc π σ x ∧ cpc π σ x ≤ 2 * l.length + 12 := by
  unfold cpc
  rcases h.2 with q | q
  · rw [if_pos q.2]; omega
  · rw [if_neg (by have := q.2.1; omega)]; omega
/-- what comes next behind a line: both stand at its end, the class goes on at once -/
def NXt (N : Nat) (σ τ : St) : Prop := ∀ τ' : St, (∀ f : Nat, f = 1 ∨ (3 ≤ f ∧ f ≤ 10) → fl τ' f 0 = fl τ f 0) → (∀ j : Int, el τ' 97 j = el τ 97 j) → (fl τ 3 0 = 1 ∧ ∃ τ'', r_advance N τ' = some τ'' ∧ SFr τ' τ'' ∧ TKr σ τ'' ∧ fl τ 4 0 + 1 ≤ fl τ'' 4 0) ∨ (fl τ 3 0 = 0 ∧ TKr σ τ')
theorem next_ok {π : Sh} {σ τ : St} (hN : 3000 ≤ N) (t : TKr σ τ) (hk : fl σ 185 1 = 10 ∨ fl σ 185 1 = 6) : ∃ σ', Sc_advance N π σ = some σ' ∧ SFc σ σ' ∧ NXt N σ' τ := by
  have kd := t.kd
  obtain ⟨σ1, τ1, z1, z2, z3, z4, z5, z6, z7, -⟩ := both_advance (N := N) (π := π) hN t (by omega)
  refine ⟨σ1, z1, z3, fun τ' h1 h2 => ?_⟩
  have t' : TKr σ τ' := t.cg (fun _ _ => rfl) (fun _ => rfl) h1 h2
  obtain ⟨σ2, τ2, y1, y2, y3, y4, y5, y6, y7, -⟩ := both_advance (N := N) (π := π) hN t' (by omega)
  have e : σ2 = σ1 := by
    rw [z1] at y1
    injection y1 with y1
    exact y1.symm
  subst e
  have g1 := h1 1 (by omega)
  have g3 := h1 3 (by omega)
  have g4 := h1 4 (by omega)
  rcases hk with hk | hk
  · left
    refine ⟨by omega, τ2, y2, y4, y5, by omega⟩
  · right
    refine ⟨by omega, ?_⟩
    -- at the end of the tape
    obtain ⟨a1, a2, a3, a4, a5, a6⟩ := y5
    have u1 : fl τ2 1 0 = fl τ' 1 0 := y4.1 1 0 (by omega)
    have end' : fl τ' 4 0 = fl τ' 1 0 ∧ fl τ' 5 0 = fl τ' 1 0 ∧ fl τ' 3 0 = 0 := by
      rcases t'.2.2.2.2.2 with q | q | ⟨q, -⟩ | q | q | q | q | ⟨b, q, q', -⟩
      · omega
      · omega
      · omega
      · omega
      · omega
      · omega
      · omega
      · unfold isSgB isOpB at q; omega
    have k6 : fl σ2 185 1 = 6 ∧ fl τ2 4 0 = fl τ2 1 0 ∧ fl τ2 5 0 = fl τ2 1 0 := by
      rcases a6 with q | q | ⟨q1, q2, e, q3, q4, q5, -⟩ | q | q | q | q | ⟨b, q1, q2, q3, q4, q5, q6⟩
      · omega
      · omega
      · omega
      · omega
      · omega
      · omega
      · omega
      · omega
    refine ⟨a1.stl rfl u1.symm (fun _ => rfl) (fun j => (y4.2 97 j).symm), by omega, by omega, by omega, by omega, Or.inl ⟨k6.1, by omega, by omega, by omega⟩⟩
/-- a line that was read -/
def LNr (N : Nat) (dl : List (Int × Int)) (π : Sh) (σ τ : St) (π' : Sh) (σ' τ' : St) : Prop := ∃ (P o n w z : Int) (L : List Stq) (Kn : List Int) (k : Nat) (b : Bse),
  (BDy (fun _ => False) π' σ' τ' (nn π) P L Kn ∧ fl σ' 25 (nn π) = o ∧ fl τ' 38 0 = P ∧ RNm (fl σ' 20 (nn π)) (el τ' 83 (fl τ 28 0)) (el τ' 82 (fl τ 28 0))) ∧ (bV b = fl τ 16 0 ∧ bP b = P ∧ EXq N b τ' (fl τ 16 0) (fl τ' 16 0) Kn 0 L n o w z k) ∧ (fl τ' 46 0 = n ∧ w ≤ 1300 ∧ z ≤ 1300 ∧ k ≤ 99000 ∧ 0 ≤ w ∧ 0 ≤ z) ∧ (∀ y ∈ L, y.1 = 99 → (y.2.2.1, y.2.2.2.1) ∈ dl ∧ (y.2.2.2.2.2.2.2.length : Int) = el τ 81 y.2.2.2.1) ∧ (fl τ' 11 0 = 0 ∧ fl σ' 182 1 = 0 ∧ fl σ' 184 1 = 0) ∧ NXt N σ' τ' ∧ (fl τ 4 0 + 3 ≤ fl τ' 4 0 ∧ fl τ 16 0 ≤ fl τ' 16 0 ∧ fl τ' 16 0 + 3 * lf τ' ≤ fl τ 16 0 + 3 * lf τ) ∧ ((nn π' : Int) + 12 * lf τ' + 20 ≤ nn π + 12 * lf τ ∧ (sw π' : Int) + 174 * lf τ' + 235 ≤ sw π + 174 * lf τ)
theorem both_line {π : Sh} {σ τ : St} {dl : List (Int × Int)} (hN : 30000001 ≤ N) (hS : SHs π) (t : TKr σ τ) (f1 : fl σ 182 1 = 0) (f2 : fl τ 11 0 = 0) (h184 : fl σ 184 1 = 0) (hF : FNc σ ∧ FNr τ ∧ WTr τ) (hV : 0 ≤ fl τ 28 0 ∧ fl τ 28 0 < 6000) (h42 : fl σ 1 42 < nn π) (hL : LD π σ 43 (dl.map Prod.fst)) (h36 : fl τ 36 0 = dl.length) (hA : At (fun i (e : Int × Int) => el τ 77 i = e.2) 0 dl) (hD : ∀ e ∈ dl, DFe (π, σ, τ, 0, 0) e ∧ e.2 < fl τ 28 0) (h16 : 0 ≤ fl τ 16 0 ∧ fl τ 16 0 + 3 * lf τ + 200 ≤ 32768) (k10 : fl σ 185 1 ≠ 10) : ∃ π' σ' r, Rd_line N π σ = some (π', σ', r) ∧ LCf π σ π' σ' ∧ SHs π' ∧ ((r = -1 ∧ ∃ τ', r_line N τ = some τ' ∧ LRf τ τ' ∧ FLT σ' τ' ∧ (nn π' : Int) ≤ nn π + 12 * lf τ + 1220 ∧ (sw π' : Int) ≤ sw π + 174 * lf τ + 12837) ∨ (r = nn π ∧ ∃ τ', r_line N τ = r_line_52 N τ' (fl τ 16 0) ∧ LRf τ τ' ∧ LNr N dl π σ τ π' σ' τ')) := by
  have h56 := hS.1
  have kd := t.kd
  have l0 := t.lf
  obtain ⟨π1, σ1, τ1, p1, p2, ⟨c1, ⟨c2, c3⟩, c4, c5, c6⟩, ⟨r1, r2⟩, p3, p4⟩ := both_head (N := N) (π := π) (by omega) hS t f1 f2 ⟨hF.1, hF.2.1⟩ hV
  have hS1 : SHs π1 := hS.ext c1
  have lc1 : LCf π σ π1 σ1 := ⟨c1, fun f i hi _ x y => c4 f i hi x (by omega), fun a j _ ha => c6 a j ha⟩
  have lr1 : LRf τ τ1 := ⟨fun f i x _ y _ _ _ => r1 f i (by omega) y, fun a j x y z => r2 a j (by omega) (by omega) z, fun a j x y _ => r2 a j (by omega) (by omega) (by omega)⟩
  rw [Rd_line, grd_t kd.1, if_neg k10, p1, Option.bind_some, r_line, p2, Option.bind_some]
  simp only
  rcases p4 with p4 | ⟨p, ⟨⟨i1, i2, i3⟩, ⟨i4, i5, i6, i7⟩, ⟨i8, i9, i10⟩, i11, i12, i13, ⟨i14, i15⟩, i16, i17⟩, p5, p6, p7, p8, p9, p10⟩
  · -- a fault in the head
    obtain ⟨q1, q2, q3⟩ := p4
    refine ⟨π1, σ1, -1, ?_, lc1, hS1, Or.inl ⟨rfl, τ1, ?_, lr1, ⟨q1, q2, q3⟩, by omega, by omega⟩⟩
    · have fin : Rd_line_84 N π1 σ1 = some (π1, σ1, -1) := by rw [Rd_line_84, grd_t (by rw [q1]; exact ⟨by omega, by omega⟩), if_neg (by omega)]
      rw [Rd_line_16, grd_t (by rw [q1]; exact ⟨by omega, by omega⟩), if_neg (by omega), Rd_line_37, grd_t p3]
      by_cases k1 : fl σ1 185 1 = 10
      · rw [if_pos k1]; exact fin
      · rw [if_neg k1]
        by_cases k2 : fl σ1 185 1 = 6
        · rw [if_pos k2]; exact fin
        · rw [if_neg k2, Sc_fail, grd_t (by rw [q1]; exact ⟨by omega, by omega⟩), if_neg (by omega), Option.bind_some]; exact fin
    · rw [grd_t (by exact ⟨by omega, by omega⟩), if_neg (by omega)]
  · -- the expression
    have v28 : fl τ1 28 0 = fl τ 28 0 := r1 28 0 (by omega) (by decide)
    have v16 : fl τ1 16 0 = fl τ 16 0 := r1 16 0 (by omega) (by decide)
    have v36 : fl τ1 36 0 = fl τ 36 0 := r1 36 0 (by omega) (by decide)
    have v1 : fl τ1 1 0 = fl τ 1 0 := r1 1 0 (by omega) (by decide)
    obtain ⟨τs, hτs⟩ : ∃ τs, τs = sf (sf τ1 41 0 0) 13 0 0 := ⟨_, rfl⟩
    have us : ∀ (f : Nat) (i : Int), f ≠ 41 → f ≠ 13 → fl τs f i = fl τ1 f i := fun f i x y => by rw [hτs, fl_sfn _ _ _ _ y, fl_sfn _ _ _ _ x]
    have ws : ∀ a j : Int, el τs a j = el τ1 a j := fun a j => by rw [hτs]; rfl
    have s13 : fl τs 13 0 = 0 := by rw [hτs, fl_sfs]
    have ts : TKr σ1 τs := i13.cg (fun _ _ => rfl) (fun _ => rfl) (fun f hf => us f 0 (by omega) (by omega)) (fun j => ws 97 j)
    have lfs : lf τs + 2 ≤ lf τ := by unfold lf; rw [us 1 0 (by decide) (by decide), us 4 0 (by decide) (by decide), v1]; omega
    have a43 := hL.a56
    have s43 : fl σ1 1 43 = fl σ 1 43 ∧ fl σ1 2 43 = fl σ 2 43 := ⟨c4 1 43 (by omega) (by omega) (by omega), c4 2 43 (by omega) (by omega) (by omega)⟩
    have ld1 : LD π1 σ1 43 (dl.map Prod.fst) := hL.keep c1 s43 (fun h0 j => c6 _ j (by rcases hL.ar with q | q <;> omega))
    have lm : (dl.map Prod.fst).length = dl.length := List.length_map ..
    obtain ⟨b, hb⟩ : ∃ b : Bse, b = (π1, σ1, τs, (nn π : Int), p) := ⟨_, rfl⟩
    have bd : bD b = nn π := by rw [hb]; rfl
    have bp : bP b = p := by rw [hb]; rfl
    have bx : bX b = nn π + 2 := by rw [hb]; exact p6
    have by' : bY b = nn π + 3 := by rw [hb]; exact p7
    have bv : bV b = fl τ 16 0 := by
      have : bV b = fl τs 16 0 := by rw [hb]; rfl
      rw [this, us 16 0 (by decide) (by decide), v16]
    have e143 : fl σ1 1 43 = fl σ 1 43 := s43.1
    have hc : CTX b dl := by
      refine ⟨?_, by rw [bd, hb]; exact ⟨i2, i1.2.1⟩, by rw [bx, by', hb]; show 56 ≤ (nn π : Int) + 2 ∧ (nn π : Int) + 2 < nn π1 ∧ _ ∧ (nn π : Int) + 3 < nn π1 ∧ _; omega, by rw [bx, by', hb]; show fl σ1 1 (nn π + 2) < 0 ∧ fl σ1 1 (nn π + 3) < 0; omega, ?_, ?_, ?_, ?_, ?_, by rw [bv]; exact h16.1⟩
      · rw [hb]
        refine ⟨i16.1, ?_⟩
        have gg := i16.2
        unfold FNr at gg ⊢
        exact gg.mono (fun i e _ _ _ hq => by show el τs 96 i = e; rw [ws]; exact hq)
      · rw [bp, bd, hb]
        refine ⟨⟨i6, i7⟩, i4, ?_, i8, i9, fun i x y => ?_⟩
        · show fl τs 38 0 = p
          rw [us 38 0 (by decide) (by decide)]; exact i5
        · show RNm (el σ1 (fl σ1 21 (nn π)) i) (el τs 76 i) (el τs 75 i)
          rw [ws, ws]; exact i11 i x y
      · rw [hb]
        refine ⟨ld1.1, ?_, ?_, ?_⟩
        · show fl σ1 2 43 = _
          rw [ld1.2.1, lm]
        · show fl τs 36 0 = _
          rw [us 36 0 (by decide) (by decide), v36]; exact h36
        · have := ld1.2.2.1; omega
      · intro hne
        rw [hb]
        show ob π1 (fl σ1 1 43) 27 ∧ (dl.length : Int) ≤ ln π1 (fl σ1 1 43)
        rcases ld1.2.2.2.1 with q | q
        · have := q.2
          rw [List.map_eq_nil_iff] at this
          exact absurd this hne
        · exact ⟨q.1, by have := q.2.2.1; omega⟩
      · rw [hb]
        show At (fun i (e : Int × Int) => el σ1 (fl σ1 1 43) i = e.1 ∧ el τs 77 i = e.2) 0 dl
        have q77 : At (fun i (e : Int × Int) => el τs 77 i = e.2) 0 dl := hA.mono (fun i e _ _ _ hq => by rw [ws, r2 77 i (by decide) (by decide) (by omega)]; exact hq)
        rcases ld1.2.2.2.1 with q | q
        · have := q.2
          rw [List.map_eq_nil_iff] at this
          rw [this]; trivial
        · have qq := q.2.2.2.2.2
          have um : ∀ (l : List (Int × Int)) (a : Int), At (fun i D => el σ1 (fl σ1 1 43) i = D) a (l.map Prod.fst) → At (fun i (e : Int × Int) => el σ1 (fl σ1 1 43) i = e.1) a l := by
            intro l
            induction l with
            | nil => intro a _; trivial
            | cons x l ih => intro a hx; exact ⟨hx.1, ih (a + 1) hx.2⟩
          exact At.imp2 (fun i e _ _ x y => ⟨x, y⟩) (um dl 0 qq) q77
      · intro e he
        obtain ⟨⟨g1, g2, g3, g4, g5, g6⟩, gV⟩ := hD e he
        simp only at g1 g2 g3 g4 g5 g6
        have l := g1.2.1
        have eo : e.1 ≠ 1 ∧ e.1 ≠ 44 := by
          refine ⟨fun q => ?_, fun q => ?_⟩
          · rw [q] at g1
            have q9 : ob π 1 9 := SHs.ob hS (i := 1) (n := 0) (by decide) rfl
            have := q9.2.2
            have := g1.2.2
            omega
          · rw [q] at g1
            have q9 : ob π 44 7 := SHs.ob hS (i := 44) (n := 0) (by decide) rfl
            have := q9.2.2
            have := g1.2.2
            omega
        have fe : ∀ f : Nat, fl σ1 f e.1 = fl σ f e.1 := fun f => c4 f e.1 l (by omega) (by omega)
        have te : ∀ a : Int, 79 ≤ a → a ≤ 83 → el τs a e.2 = el τ a e.2 := fun a x y => by rw [ws, r2 a e.2 (by omega) (by omega) (by omega)]
        rw [hb]
        unfold DFe
        simp only
        rw [fe, fe, fe, te 83 (by decide) (by decide), te 82 (by decide) (by decide), te 81 (by decide) (by decide), te 79 (by decide) (by decide)]
        refine ⟨g1.ext c1, g2, g3, g4, g5, fun h0 => ⟨(g6 h0).1.ext c1, (g6 h0).2.growP ((lc1.kc h56).hx h56 hL.ar).hp ?_⟩⟩
        exact TX.eq (by rw [us 48 0 (by decide) (by decide), r1 48 0 (by omega) (by decide)]) (by rw [us 61 0 (by decide) (by decide), r1 61 0 (by omega) (by decide)]) (fun a j x y => by rw [ws, r2 a j (by omega) (by omega) (by omega)])
    have bdy : BDy (fun _ => False) π1 σ1 τs (bD b) (bP b) [] [] := by
      rw [bd, bp]
      unfold BDy
      rw [p6, p7]
      refine ⟨⟨i1, i4, i6, i7⟩, ?_, ?_, by omega, fun h => by omega, ⟨by rw [c4 1 42 (by omega) (by omega) (by omega)]; omega, by rw [e143]; rcases hL.ar with q | q <;> omega⟩, ⟨by omega, by omega, i2⟩, fun x hx => absurd hx id, ⟨id, id, id⟩, id, id⟩
      · exact ⟨⟨p8.1, p8.2.2, by simp, fun h => absurd rfl h, by omega, by omega, fun h => absurd rfl h⟩, Or.inl ⟨rfl, by omega⟩⟩
      · exact ⟨⟨p9.1, p9.2.2, by simp, fun h => absurd rfl h, by omega, by omega, fun h => absurd rfl h⟩, Or.inl ⟨rfl, by omega⟩⟩
    have xe : XEs b (fun _ => False) π1 σ1 τs [] [] := by
      refine ⟨hS1, ts, ⟨i14, by rw [us 11 0 (by decide) (by decide)]; exact i15⟩, ⟨by rw [c5, h184, s13], by omega, by omega⟩, by rw [bd]; exact i3, bdy, ?_, ?_, ?_, fun x hx => absurd hx id⟩
      · rw [hb]; exact EFt.rf _ _ _ _
      · rw [hb]; exact RDr.rf _ _ _
      · rw [bv, us 16 0 (by decide) (by decide), v16]; exact Int.le_refl _
    have hW : WTr b.2.2.1 := by
      rw [hb]
      intro f x y
      show el τs 95 f = _
      rw [ws, r2 95 f (by decide) (by decide) (by omega)]
      exact hF.2.2 f x y
    have sl : fl τs 16 0 = fl τ 16 0 := by rw [us 16 0 (by decide) (by decide), v16]
    have ls := ts.lf
    have pre : PRE τs [] [] := ⟨by rw [sl]; omega, by simp only [List.length_nil]; omega, by simp only [List.length_nil]; omega⟩
    rw [hτs] at xe pre
    obtain ⟨π2, σ2, τ2, o, tt, q1, q2, q3, q4, q5⟩ := exp_top hN hc hW xe pre
    rw [← hτs] at xe pre q4 q5
    have x2 := q3.1
    have ob2 : ob π2 (nn π) 1 := i1.ext x2
    have hS2 : SHs π2 := hS1.ext x2
    -- what was left alone
    have lc2 : LCf π σ π2 (sf σ2 25 (nn π) o) := by
      refine ⟨c1.tr x2, fun f i hi x y z => ?_, fun a j a0 ha => ?_⟩
      · rw [fl_sf, if_neg (by omega), q3.2.1 f i (by omega) x y (by omega) (by rw [bx, by']; omega)]
        exact lc1.2.1 f i hi x y z
      · have e1 : fl σ1 1 (bX b) = -1 := by rw [bx]; exact p8.2.1
        have e2 : fl σ1 1 (bY b) = -1 := by rw [by']; exact p9.2.1
        rw [el_sf, q3.2.2.1 a j (by omega) (by omega) (by omega)]
        exact c6 a j ha
    have q4' := q4
    rw [sl] at q4'
    have lr2 : LRf τ τ2 := by
      refine ⟨fun f i x y z w g h => ?_, fun a j x y z => ?_, fun a j x y z => ?_⟩
      · rw [q4.1 f i (by omega) y w g h, us f i w (by omega), r1 f i (by omega) z]
      · rw [q4.2.1 a j (by omega) (by omega), ws, r2 a j (by omega) (by omega) z]
      · rw [q4'.2.2.1 a j x y z, ws, r2 a j (by omega) (by omega) (by omega)]
    have e144 : fl σ1 144 44 = nn π := i3
    rw [i15, grd_t (by decide), if_pos rfl, q2, Option.bind_some, Rd_line_16, i14, grd_t (by decide), if_pos rfl, q1, Option.bind_some]
    simp only
    rw [e144, Rd_line_34, grd_t ob2]
    have g3f : ∀ (f : Nat) (i : Int), f ≠ 25 → fl (sf σ2 25 (nn π) o) f i = fl σ2 f i := fun f i x => fl_sfn _ _ _ _ x
    rcases q5 with ⟨⟨-, ⟨τt, g1⟩, ⟨g2, g3, g4⟩, g5, L, Kn, g6, g7, g8⟩, ⟨g9, g10⟩, -⟩ | ⟨seg, kn, n, w, z, k, g1, ⟨g2, g3, g4⟩, g5, g6, g7, g8, ⟨⟨w0, g9⟩, ⟨z0, g10⟩, g11, g12, g13, g14⟩, ⟨g15, g16⟩, g17, g18⟩
    · -- a fault
      have kt := g1.kd
      refine ⟨π2, sf σ2 25 (nn π) o, -1, ?_, lc2, hS2, Or.inl ⟨rfl, τ2, ?_, lr2, ?_, ?_, ?_⟩⟩
      · have f182 : fl (sf σ2 25 (nn π) o) 182 1 = fl τ2 11 0 := by rw [g3f 182 1 (by decide)]; exact g2
        have fin : Rd_line_84 N π2 (sf σ2 25 (nn π) o) = some (π2, sf σ2 25 (nn π) o, -1) := by rw [Rd_line_84, grd_t (by rw [f182]; exact ⟨by omega, by omega⟩), if_neg (by omega)]
        rw [Rd_line_37, grd_t (by rw [g3f 185 1 (by decide)]; exact kt.1)]
        by_cases k1 : fl (sf σ2 25 (nn π) o) 185 1 = 10
        · rw [if_pos k1]; exact fin
        · rw [if_neg k1]
          by_cases k2 : fl (sf σ2 25 (nn π) o) 185 1 = 6
          · rw [if_pos k2]; exact fin
          · rw [if_neg k2, Sc_fail, grd_t (by rw [f182]; exact ⟨by omega, by omega⟩), if_neg (by omega), Option.bind_some]; exact fin
      · rw [grd_t (by exact ⟨by omega, by omega⟩), if_neg (by omega), r_line_52, grd_t (by exact ⟨by omega, by omega⟩), if_neg (by omega)]
      · exact ⟨by rw [g3f 182 1 (by decide)]; exact g2, by rw [g3f 183 1 (by decide)]; exact g3, g4⟩
      · rw [s13] at g9; omega
      · have e1 : cpc π1 σ1 (bX b) = 0 := by unfold cpc; rw [bx, p8.2.1]; rfl
        have e2 : cpc π1 σ1 (bY b) = 0 := by unfold cpc; rw [by', p9.2.1]; rfl
        have e3 := g6.2.1.cp
        have e4 := g6.2.2.1.cp
        obtain ⟨z1, z2⟩ := EFt.x hc xe q3
        rw [z1] at e3
        rw [z2] at e4
        rw [s13] at g7 g10
        simp only [List.length_nil] at g7 g8
        omega
    · -- an expression was read
      have bdy2 := g1.2.2.2.2.2.1
      rw [List.nil_append, List.nil_append] at bdy2
      have t2 := g1.2.1
      have kd2 := t2.kd
      have l2 := t2.lf
      have e1 : cpc π1 σ1 (bX b) = 0 := by unfold cpc; rw [bx, p8.2.1]; rfl
      have e2 : cpc π1 σ1 (bY b) = 0 := by unfold cpc; rw [by', p9.2.1]; rfl
      have e3 := bdy2.2.1.cp
      have e4 := bdy2.2.2.1.cp
      obtain ⟨z1, z2⟩ := EFt.x hc xe q3
      rw [z1] at e3
      rw [z2] at e4
      have nb : (nn π2 : Int) + 12 * lf τ2 + 20 ≤ nn π + 12 * lf τ := by omega
      have sb : (sw π2 : Int) + 174 * lf τ2 + 235 ≤ sw π + 174 * lf τ := by omega
      have t3 : TKr (sf σ2 25 (nn π) o) τ2 := t2.cg (fun f hf => g3f f 1 (by omega)) (fun _ => rfl) (fun _ _ => rfl) (fun _ => rfl)
      have h182 : fl (sf σ2 25 (nn π) o) 182 1 = 0 := by rw [g3f 182 1 (by decide)]; exact g1.2.2.1.1
      have h11 : fl τ2 11 0 = 0 := g1.2.2.1.2
      have k185 : fl (sf σ2 25 (nn π) o) 185 1 = fl σ2 185 1 := g3f 185 1 (by decide)
      by_cases ke : fl σ2 185 1 = 10 ∨ fl σ2 185 1 = 6
      · obtain ⟨σ3, a1, a2, a3⟩ := next_ok (N := N) (π := π2) (by omega) t3 (by rw [k185]; exact ke)
        have f3 : ∀ (f : Nat) (i : Int), 56 ≤ i → fl σ3 f i = fl (sf σ2 25 (nn π) o) f i := fun f i hi => a2.1 f i (by omega)
        have e44 : fl σ3 144 44 = nn π := by rw [a2.1 144 44 (by omega), g3f 144 44 (by decide), g1.2.2.2.2.1, bd]
        refine ⟨π2, σ3, (nn π : Int), ?_, ⟨lc2.1, fun f i hi x y z => by rw [a2.1 f i (by omega)]; exact lc2.2.1 f i hi x y z, fun a j x y => by rw [a2.2]; exact lc2.2.2 a j x y⟩, hS2, Or.inr ⟨rfl, τ2, ?_, lr2, p, o, n, w, z, seg, kn, k, b, ⟨?_, ?_, ?_, ?_⟩, ⟨bv, bp, ?_⟩, ⟨g3, by omega, by omega, by omega, w0, z0⟩, ?_, ⟨h11, by rw [a2.1 182 1 (by omega)]; exact h182, ?_⟩, a3, ⟨?_, ?_, ?_⟩, nb, sb⟩⟩
        · have fin : Rd_line_84 N π2 (sf σ2 25 (nn π) o) = some (π2, σ3, (nn π : Int)) := by rw [Rd_line_84, h182, grd_t (by decide), if_pos rfl, a1, Option.bind_some, e44]
          rw [Rd_line_37, k185, grd_t kd2.1]
          rcases ke with ke | ke
          · rw [if_pos ke]; exact fin
          · rw [if_neg (by omega), if_pos ke]; exact fin
        · rw [h11, grd_t (by decide), if_pos rfl, grd_t (by exact ⟨by omega, by omega⟩)]
          rcases ke with ke | ke
          · rw [if_pos (by omega)]
          · rw [if_neg (by omega), if_pos (by omega)]
        · have sD : ∀ (f : Nat) (i : Int), 56 ≤ i → f ≠ 25 → fl σ3 f i = fl σ2 f i := fun f i x y => by rw [f3 f i x, g3f f i y]
          rw [bd, bp] at bdy2
          have b2 := bdy2.b
          have e42 : ∀ (f : Nat) (x : Int), f = 1 ∨ f = 2 → fl σ3 f x = fl σ2 f x := fun f x hf => by rw [a2.1 f x (by omega), g3f f x (by omega)]
          exact bdy2.mv ⟨ext.rf _, fun f i hf h3 hi => by rw [a2.1 f i (by unfold inF at hf; omega), g3f f i (by omega)], fun a j _ _ _ => by rw [a2.2]; rfl⟩ (TX.rf _) ⟨sD 22 _ i2 (by decide), sD 23 _ i2 (by decide), sD 24 _ i2 (by decide)⟩ (fun f x hf _ => e42 f x hf) (fun x j _ _ => by rw [a2.2]; rfl)
        · rw [f3 25 _ (by omega), fl_sfs]
        · rw [q4.1 38 0 (by omega) (by decide) (by decide) (by decide) (by decide), us 38 0 (by decide) (by decide)]; exact i5
        · rw [f3 20 _ (by omega), g3f 20 _ (by decide), q3.2.1 20 _ i1.2.1 (by omega) (by omega) (by omega) (by rw [bx, by']; omega), q4.2.1 83 _ (by decide) (by decide), q4.2.1 82 _ (by decide) (by decide), ws, ws]
          exact i12
        · have := g7
          rw [sl, List.nil_append] at this
          exact this
        · intro y hy h99
          obtain ⟨u1, u2, -⟩ := g8 y hy h99
          refine ⟨u1, ?_⟩
          rw [u2, hb]
          show el τs 81 _ = _
          have gV := (hD _ u1).2
          rw [ws, r2 81 _ (by decide) (by decide) (by omega)]
        · rw [a2.1 184 1 (by omega), g3f 184 1 (by decide), g1.2.2.2.1.1, g4, s13]
        · have : lf τ2 + 1 ≤ lf τs := g13
          have w1 : fl τ2 1 0 = fl τ 1 0 := lr2.1 1 0 (by omega) (by decide) (by decide) (by decide) (by decide) (by decide)
          unfold lf at this lfs
          rw [us 1 0 (by decide) (by decide), v1] at this lfs
          omega
        · omega
        · rw [sl] at g14; omega
      · -- not the line's end
        refine ⟨π2, sf (sf (sf σ2 25 (nn π) o) 182 1 1) 183 1 (fl σ2 186 1), -1, ?_, ⟨lc2.1, fun f i hi x y z => by rw [fl_sf, if_neg (by omega), fl_sf, if_neg (by omega)]; exact lc2.2.1 f i hi x y z, fun a j x y => lc2.2.2 a j x y⟩, hS2, Or.inl ⟨rfl, sf (sf τ2 11 0 1) 12 0 (fl τ2 4 0), ?_, ⟨fun f i x y z w g h => by rw [fl_sfn _ _ _ _ (by omega), fl_sfn _ _ _ _ (by omega)]; exact lr2.1 f i x y z w g h, fun a j x y z => lr2.2.1 a j x y z, fun a j x y z => lr2.2.2 a j x y z⟩, ⟨?_, ?_, ?_⟩, by omega, by omega⟩⟩
        · rw [Rd_line_37, k185, grd_t kd2.1, if_neg (by omega), if_neg (by omega), Sc_fail, h182, grd_t (by decide), if_pos rfl, Option.bind_some, Rd_line_84, fl_sfn _ _ _ _ (by decide), fl_sfs, grd_t (by decide), if_neg (by decide), g3f 186 1 (by decide)]
        · rw [h11, grd_t (by decide), if_pos rfl, grd_t (by exact ⟨by omega, by omega⟩), if_neg (by omega), if_neg (by omega), r_fail, h11, grd_t (by decide), if_pos rfl, Option.bind_some, r_line_52, fl_sfn _ _ _ _ (by decide), fl_sfs, grd_t (by decide), if_neg (by decide)]
        · rw [fl_sfn _ _ _ _ (by decide), fl_sfs, fl_sfn _ _ _ _ (by decide), fl_sfs]
        · rw [fl_sfs, fl_sfs]; exact t2.2.1
        · rw [fl_sfn _ _ _ _ (by decide), fl_sfs]; decide
end LN9
