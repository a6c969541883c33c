/-! names before what they are applied to: behind the last argument -/
section AM9
variable {N : Nat} {b : Bse} {Xo : Int → Prop} {dl : List (Int × Int)} {rA rF : Sh → St → Option (Sh × St × Int)}
/-- what applying comes to there -/
def APQ (N : Nat) (b : Bse) (dl : List (Int × Int)) (Xo : Int → Prop) (n pc op e0 : Int) (L0 : List Stq) (Kn0 : List Int) (π0 π : Sh) (σ τ : St) (l : List Ech) (m kA : Nat) (A B : Int) : Prop := ∀ (π' : Sh) (σ' τ' : St) (o : Int) (x : Ech) (kn' : List Int), EFt (bX b) (bY b) π σ π' σ' → PFx (nn π0) (nn π) pc π σ π' σ' → eO x = some o → eA x = [] → XEs b Xo π' σ' τ' (L0 ++ egs (l ++ [x])) (Kn0 ++ kn') → (n < fl τ' 16 0 ∧ fl τ' 16 0 ≤ 32768 ∧ fl τ 16 0 ≤ fl τ' 16 0 ∧ lf τ' + 1 ≤ lf τ) → (L0 ++ egs (l ++ [x])).length + m ≤ 20000 → (∀ a : Int, 88 ≤ a → a ≤ 94 → el τ' a n = el τ a n) → (∀ a i : Int, 85 ≤ a → a ≤ 94 → n + 1 ≤ i → i < fl τ 16 0 → (a = 85 → ∀ y, l.getLast? = some y → i ≠ eC y) → el τ' a i = el τ a i) → ECs N b τ' (Kn0 ++ kn') L0.length (n + 1) (fl τ' 16 0) (l ++ [x]) → ECn τ' (n + 1) (fl τ' 16 0) n (l ++ [x]) → EBd ((e0 - lf τ' + 28 * (20 - op)) / 2 + 3) ((e0 - lf τ' + 28 * (20 - op)) / 2 + 5) (l ++ [x]) → ∃ π'' σ'' seg o', Pc_applyC N 24 π' σ' pc (bD b) o = some (π'', σ'', o') ∧ ADo Xo (bD b) (bP b) (L0 ++ egs (l ++ [x])) (Kn0 ++ kn') π' σ' τ' seg π'' σ'' A B ∧ seg.length ≤ m ∧ (∀ y ∈ seg, y.1 = 99 → Uoe dl b y) ∧ EXq N b τ' n (fl τ' 16 0) (Kn0 ++ kn') L0.length (egs (l ++ [x]) ++ seg) n o' ((e0 - lf τ' + 28 * (20 - op)) / 2 + 6) ((e0 - lf τ' + 28 * (20 - op)) / 2 + 7) (ekk (l ++ [x]) + kA + 1)
set_option maxHeartbeats 4000000 in
theorem app_last {X : Int → Prop} {d n pc op e0 A B : Int} {m kA : Nat} {L0 : List Stq} {Kn0 kn : List Int} {π0 π : Sh} {σ0 τ0 σ τp τ : St} {l : List Ech} {T : Nat} (hN : 30000001 ≤ N) (hc : CTX b dl) (h0 : XEs b Xo π0 σ0 τ0 L0 Kn0) (hB0 : PRE τ0 L0 Kn0) (hd : 0 ≤ d ∧ d + 2 ≤ 10 * op + 11) (hop : fl τ0 13 0 = op) (h : WLT N b dl X d n pc op e0 L0 Kn0 π0 σ0 τ0 π σ τ l kn T) (hX : ∀ x, Xo x → X x) (ht : TRN N τp τ d n) (h71 : el τ 71 (d + 1) = nuw [4]) (hA : ARH N b dl 5 1 0 11 rA op) (hpc : ob π pc 6) (h94 : el τ 94 n = 7 ∨ el τ 94 n = 8) (hap : APQ N b dl Xo n pc op e0 L0 Kn0 π0 π σ τ l m kA A B) (hk : (ekk l : Int) + kA + 3 + 12 * lf τ ≤ 12 * lf τ0) (hm : ((egs l).length : Int) + m + 2 * lf τ ≤ 2 * lf τ0) (hAB : 0 ≤ A ∧ 0 ≤ B) (hr1 : (nn π : Int) + A ≤ nn π0 + 12 * (lf τ0 - lf τ)) (hr2 : (sw π : Int) + 4 * cpc π0 σ0 (bX b) + 4 * cpc π0 σ0 (bY b) + B ≤ sw π0 + 4 * cpc π σ (bX b) + 4 * cpc π σ (bY b) + 150 * (lf τ0 - lf τ)) : ∃ π' σ' τ' o t, Rd_app_48 N rA rF π σ pc = some (π', σ', o) ∧ RLp N t τp τ' ∧ EXo N b dl Xo L0 Kn0 d 6 1 π0 σ0 τ0 π' σ' τ' o (T + t) := by
  obtain ⟨π', σ', τ', o, t, q1, q2, q3, q4, q5⟩ := wl_arg (rA := rA) hN hc h0 hB0 hd hop h hX ht h71 hA
  obtain ⟨a1, a3, a4, a5, a6, a7, a8, a9, a11, a12, a13, ⟨a15, a15', a15''⟩, b1, b3, b4, b5, b6⟩ := id h
  have opb := h0.2.2.2.1
  have l0 := h0.2.1.lf
  have l1 := a1.2.1.lf
  have v16 := h0.2.2.2.2.2.2.2.2.1
  have bv : 0 ≤ bV b := by obtain ⟨-, -, -, -, -, -, -, -, -, q⟩ := hc; exact q
  have fz := a1.2.2.1.1
  have e0' : EFt (bX b) (bY b) π0 σ0 π' σ' := a4.tr q3
  have nn0 := a9.1
  rcases q5 with ⟨f1, f2, f3⟩ | ⟨x, kn', xO, xA, xi, ⟨g2, g3, g4⟩, g5, g6, g7, g8, g9, g10, g11, ⟨y1, y2, y3, y4, y5, y6, y7⟩, g12⟩
  · have fz' := f1.f
    have m1 := f2.1
    have m2 := f2.2
    refine ⟨π', σ', τ', 0, t, ?_, q2, e0', by rw [← nn0]; exact q4, Or.inl ⟨f1.mono (by rw [hop]; omega) (by omega), ⟨by rw [hop]; omega, by rw [hop]; omega⟩, by push_cast; omega⟩⟩
    rw [Rd_app_48, fz, grd_t (by decide), if_pos rfl, q1, Option.bind_some]
    simp only
    rw [Rd_app_63, Rd_app_67, grd_t fz'.2, if_neg fz'.1]
  · have lx := xi.lt hc
    have xx := xi.x hc
    have fz' := xi.2.2.1.1
    have h144 := xi.2.2.2.2.1
    have l2 := xi.2.1.lf
    have eg : egs (l ++ [x]) = egs l ++ eS x := by
      rw [egs_app]
      show egs l ++ (eS x ++ []) = _
      rw [List.append_nil]
    have egl : ((egs (l ++ [x])).length : Int) = (egs l).length + (eS x).length := by rw [eg, List.length_append]; omega
    have b16 : fl τ' 16 0 ≤ 32768 := by unfold PRE at hB0; omega
    have pfl : PFx (nn π0) (nn π) pc π σ π' σ' := by
      have xx := a1.x hc
      have bd := a1.2.2.2.2.2.1
      have ar1 := bd.2.1.ar
      have ar2 := bd.2.2.1.ar
      rw [xx.1] at ar1
      rw [xx.2] at ar2
      refine ⟨q3.1, fun f i s1 s2 s3 s4 _ => q3.2.1 f i s4 (by omega) (by omega) (by omega) (by omega), fun a j s1 s2 ho => q3.2.2.1 a j s2 (fun w => ?_) (fun w => ?_)⟩
      · rcases ar1 with q | q
        · rw [← w] at q; have := ho.1; omega
        · rw [← w] at q; have t := q.2.2; rw [ho.2.2] at t; exact absurd t (by decide)
      · rcases ar2 with q | q
        · rw [← w] at q; have := ho.1; omega
        · rw [← w] at q; have t := q.2.2; rw [ho.2.2] at t; exact absurd t (by decide)
    obtain ⟨π2, σ2, seg, o', p1, p2, p3, p4, p5⟩ := hap π' σ' τ' o x kn' q3 pfl xO xA xi ⟨by omega, b16, g5, y6⟩ (by
      unfold PRE at hB0
      rw [List.length_append]
      omega) g6 g7 g8 g9 g11
    obtain ⟨⟨r1, r1', r1''⟩, r2, r3, r4⟩ := p2
    rw [xx.1] at r1 r3
    have n56 := xi.1.1
    have e2 : EFt (bX b) (bY b) π' σ' π2 σ2 := EFt.xt r1 ⟨lx.1.2.2.2.1, fun e => lx.1.2.2.2.2 e.symm, lx.1.2.2.1⟩
    have xf := xi.cl hc (X' := Xo) e2 (fun g => r1' g 1 (by omega)) r2 h0.2.2.2.2.2.2.2.2.2
    rw [List.append_assoc] at xf
    have yk : fl σ2 1 (bY b) = fl σ' 1 (bY b) := by
      have w := lx.1
      exact r1.2.1 1 (bY b) (by omega) (by omega) (by omega) (by omega)
    have rm := RmE.xt (y := bY b) r3 yk r1.1 lx.2.1.2
    have m1 := rm.1
    have m2 := rm.2
    have m3 := g12.1
    have m4 := g12.2
    have n94 := g6 94 (by omega) (by omega)
    have ek := ekk_app l x
    refine ⟨π2, σ2, τ', o', t, ?_, q2, e0'.tr e2, by rw [← nn0]; exact q4, Or.inr ⟨egs (l ++ [x]) ++ seg, kn', n, (e0 - lf τ' + 28 * (20 - op)) / 2 + 6, (e0 - lf τ' + 28 * (20 - op)) / 2 + 7, ekk (l ++ [x]) + kA + 1, xf, ⟨g2, g3, by rw [g4, hop]⟩, ⟨by omega, by omega⟩, by rw [n94]; omega, by rw [← nn0]; exact p5, ?_, ⟨⟨by omega, by rw [hop]; omega⟩, ⟨by omega, by rw [hop]; omega⟩, by rw [ek]; push_cast; omega, by push_cast; omega, by omega, by omega⟩, ⟨by rw [List.length_append]; push_cast; omega, by omega⟩, ⟨by omega, by omega⟩⟩⟩
    · rw [Rd_app_48, fz, grd_t (by decide), if_pos rfl, q1, Option.bind_some]
      simp only
      rw [Rd_app_63, Rd_app_67, fz', grd_t (by decide), if_pos rfl, h144, p1, Option.bind_some, grd_t (hpc.ext q3.1)]
      rfl
    · intro y hy h9
      rcases List.mem_append.1 hy with q | q
      · exact g10 y q h9
      · exact p4 y q h9
/-- the children and the function's own task -/
theorem fq_func {τ' : St} {n o' hi : Int} {j : Int} {Kn : List Int} {l : List Ech} {seg : List Stq} {W Z wA zA w z : Int} {kA : Nat} (hN : 30000001 ≤ N) (hP : bP b ≤ 4) (hn : 0 ≤ n ∧ n < hi ∧ hi ≤ 32768) (hW : 0 ≤ W) (h94 : el τ' 94 n = 8) (hs : ECs N b τ' Kn j (n + 1) hi l) (hch : ECn τ' (n + 1) hi n l) (hB : EBd W Z l) (h2 : ∀ (x : Nat) (y : Int), x ≤ 12 → TKS N (UDl N x) (12 - x) (se τ' 85 n y) (bV b) n hi (bP b) Kn (j + (egs l).length) seg (HLv (13 - x) + wA) (HLv (13 - x) + zA) kA 0 0 [(12, n)] (eou l) [o'] (eav l) []) (hw : W + 1 ≤ w ∧ wA ≤ w) (hz : Z ≤ z ∧ zA ≤ z) : EXq N b τ' n hi Kn j (egs l ++ seg) n o' w z (ekk l + kA + 1) := by
  intro x y hx
  have hl := HLv_b hx
  have e : ∀ a i, ¬ (a = 85 ∧ i = n) → el (se τ' 85 n y) a i = el τ' a i := fun a i hq => by rw [el_se, if_neg hq]
  have mem := hs.le.2
  have hs' : ECs N b (se τ' 85 n y) Kn j (n + 1) hi l := hs.cg (List.prefix_refl _) (fun u hu a i _ _ x3 x4 _ => e a i (by have := mem u hu; omega))
  have hn' : ECn (se τ' 85 n y) (n + 1) hi n l := ECn.mv hs hch ⟨e 87 n (by omega), e 86 n (by omega)⟩ (Int.le_refl _) (fun u hu => ⟨e 94 _ (by omega), e 85 _ (by have := mem u hu; omega)⟩)
  have fk := fk_e (x := x) (w := W) (z := Z) hN hP hW hx hs' hn'.1 hB
  exact mk_func hN hP ⟨⟨hn.1, by omega⟩, Int.le_refl _, hn.2.1⟩ (by rw [e 94 n (by omega)]; exact h94) rfl fk (h2 x y hx) ⟨by omega, Int.le_refl _⟩ ⟨Int.le_refl _, Int.le_refl _⟩ ⟨by omega, by omega, by omega⟩ ⟨by omega, by omega⟩ (Nat.le_refl _) (by decide) ⟨by decide, by decide⟩
end AM9
