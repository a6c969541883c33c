/-! pieces that have a FUN, both: over, off, inside, some -/
section AP6
variable {N : Nat} {rA : Sh → St → Int → Int → Int → Option (Sh × St × Int)}
theorem aps_over {D P vlo lo hi lo1 hi1 wk n s0 s1 t0 t1 ex pc fc F place a b c d w z A B : Int} {m k : Nat} {Uo : Stq → Prop} {av : List (Int × Int)} {π : Sh} {σ τ : St} (hN : 30000001 ≤ N) (hP : P ≤ 4) (hp : PCf π σ pc 8 place a b c d) (h126 : fl σ 126 pc = fc) (hs : s0 ≤ pc ∧ pc < s1) (ht : (s0 ≤ t0 ∧ t1 ≤ s1) ∧ pc < t0 ∧ s1 ≤ nn π) (hx : ex = pc) (hn : ND lo hi n) (hF : FN τ n place 8 a b c d) (hw : (wk = 11 ∧ el τ 94 n = 13) ∨ wk = 12) (hv : IVf 8 a b c d) (h87 : el τ 87 n = F) (hl : lo ≤ lo1 ∧ hi1 ≤ hi ∧ n < lo1) (hwz : 0 ≤ w ∧ 0 ≤ z) (hA : APs N D P vlo lo1 hi1 m k w z A B Uo av 11 F t0 t1 (-1) π σ τ (fun π σ p => Pc_applyAll N rA π σ fc D p)) : APs N D P vlo lo hi (m + 1) (k + 3) (w + 1) (z + 1) (A + 6) (B + 60) Uo av wk n s0 s1 ex π σ τ (fun π σ p => Pc_apply N rA π σ pc D p) := by
  intro Xo π' σ' τ' L Kn oi h1 h2 h3 h4 h5
  have kf : ∀ g : Nat, 120 ≤ g → g ≤ 130 → g ≠ 127 → fl σ' g pc = fl σ g pc := fun g a b c => h1.2.1 g pc a b hs.1 hs.2 (by omega)
  have hp' : PCf π' σ' pc 8 place a b c d := hp.cg h1.1 (fun g a b => kf g (by omega) (by omega) (by omega))
  have ng := h1.1.1
  have e126 : fl σ' 126 pc = fc := by rw [kf 126 (by omega) (by omega) (by omega)]; exact h126
  have hF' := hF.tb h5 hn
  have pfF := h1.sub (t0 := t0) (t1 := t1) (ex' := -1) ht.1.1 ht.1.2 (fun _ _ => by omega)
  have tbF : ∀ a i : Int, 85 ≤ a → a ≤ 94 → lo1 ≤ i → i < hi1 → ¬ (a = 85 ∧ i = F) → el τ' a i = el τ a i := fun a i x1 x2 x3 x4 x5 => h5 a i x1 x2 (by omega) (by omega) (by omega)
  have h87' : el τ' 87 n = F := by rw [h5 87 n (by omega) (by omega) hn.2.1 hn.2.2 (by omega)]; exact h87
  obtain ⟨o0, z0⟩ := pc_sel hp'
  obtain ⟨g1, g2, g3, g4, g5, g6, g7⟩ := id hp'
  obtain ⟨π1, σ1, seg, oF, q1, q2, q3, q4, q5⟩ := hA Xo π' σ' τ' L Kn oi pfF h2 h3 (by omega) tbF
  have q1' : Pc_applyAll N rA π' σ' fc D oi = some (π1, σ1, oF) := q1
  have pf1 : PFx s0 s1 ex π' σ' π1 σ1 := PFx.ft h3 q2.1 (by omega)
  have hp1 : PCf π1 σ1 pc 8 place a b c d := hp'.cg pf1.1 (fun g a b => pf1.2.1 g pc (by omega) (by omega) hs.1 hs.2 (by omega))
  have hL1 : ((L ++ seg).length : Int) = L.length + seg.length := by rw [List.length_append]; omega
  have l20 : (L ++ seg).length ≤ 20000 := by rw [List.length_append]; omega
  obtain ⟨o1, zz⟩ := pc_sel hp1
  obtain ⟨j1, j2, j3, j4, j5, j6, j7⟩ := id hp1
  obtain ⟨π2, σ2, v1, v2⟩ := mk2i_ok (N := N) (K := 5) (place := place) (p := oi) (q := oF) q2.2.2.2 q2.2.1 l20 (by decide)
  refine ⟨π2, σ2, seg ++ [(5, place, 0, 0, 0, 0, 0, [(oi, 1, 1), (oF, 1, 1)])], P + (L ++ seg).length, ?_, q2.tr h3 v2, by rw [List.length_append]; simp; omega, fun y hy h9 => ?_, fun x hx => ?_⟩
  · show Pc_apply N rA π' σ' pc D oi = _
    rw [Pc_apply, grd_t g1, g2, grd_t (by decide)]
    iterate 8 rw [if_neg (by decide)]
    rw [if_pos rfl, Pc_applyWithFun, grd_t g1, g2, grd_t (by decide), if_neg (by decide), if_neg (by decide), e126, q1', Option.bind_some, Pc_applyWithFun_187]
    simp only
    rw [grd_t j1, j2, grd_t (by decide)]
    iterate 3 rw [if_neg (by decide)]
    rw [if_pos rfl, Pc_applyWithFun_446, grd_t o1, zz 121, j3]
    have := v1 (fun π σ o => some (π, σ, o))
    exact (congrArg (fun t => Option.bind t (fun r14 => Pc_apply_536 N rA r14.1 r14.2.1 r14.2.2)) (show _ = some (π2, σ2, P + (L ++ seg).length) from this)).trans rfl
  · rcases List.mem_append.1 hy with q | q
    · exact q4 y q h9
    · have ey : y = (5, place, 0, 0, 0, 0, 0, [(oi, 1, 1), (oF, 1, 1)]) := by simpa using q
      rw [ey] at h9
      exact absurd (show (5 : Int) = 99 from h9) (by decide)
  · have hl' := HLv_b hx
    rw [hL1]
    exact tk_over (w := wk) hN hP hn hF' h87' (q5 x hx) ⟨hl.1, hl.2.1⟩ (by omega) (by omega) (Nat.le_refl _) (Int.le_refl _) (by decide) (hw_ok (f := 8) hn (by
      rcases hw with q | q
      · exact Or.inl ⟨q.1, by rw [h5 94 n (by omega) (by omega) hn.2.1 hn.2.2 (by omega)]; exact q.2, hF'.2.1, by decide⟩
      · exact Or.inr q))
theorem aps_off {D P vlo lo hi lo1 hi1 wk n s0 s1 t0 t1 ex pc fc F place a b c d w z A B : Int} {m k : Nat} {Uo : Stq → Prop} {av : List (Int × Int)} {π : Sh} {σ τ : St} (hN : 30000001 ≤ N) (hP : P ≤ 4) (hp : PCf π σ pc 7 place a b c d) (h126 : fl σ 126 pc = fc) (hs : s0 ≤ pc ∧ pc < s1) (ht : (s0 ≤ t0 ∧ t1 ≤ s1) ∧ pc < t0 ∧ s1 ≤ nn π) (hx : ex = pc) (hn : ND lo hi n) (hF : FN τ n place 7 a b c d) (hw : (wk = 11 ∧ el τ 94 n = 13) ∨ wk = 12) (hv : IVf 7 a b c d) (h87 : el τ 87 n = F) (hl : lo ≤ lo1 ∧ hi1 ≤ hi ∧ n < lo1) (hwz : 0 ≤ w ∧ 0 ≤ z) (hA : APs N D P vlo lo1 hi1 m k w z A B Uo av 11 F t0 t1 (-1) π σ τ (fun π σ p => Pc_applyAll N rA π σ fc D p)) : APs N D P vlo lo hi (m + 2) (k + 4) (w + 2) (z + 1) (A + 12) (B + 120) Uo av wk n s0 s1 ex π σ τ (fun π σ p => Pc_apply N rA π σ pc D p) := by
  intro Xo π' σ' τ' L Kn oi h1 h2 h3 h4 h5
  have kf : ∀ g : Nat, 120 ≤ g → g ≤ 130 → g ≠ 127 → fl σ' g pc = fl σ g pc := fun g a b c => h1.2.1 g pc a b hs.1 hs.2 (by omega)
  have hp' : PCf π' σ' pc 7 place a b c d := hp.cg h1.1 (fun g a b => kf g (by omega) (by omega) (by omega))
  have ng := h1.1.1
  have e126 : fl σ' 126 pc = fc := by rw [kf 126 (by omega) (by omega) (by omega)]; exact h126
  have hF' := hF.tb h5 hn
  have pfF := h1.sub (t0 := t0) (t1 := t1) (ex' := -1) ht.1.1 ht.1.2 (fun _ _ => by omega)
  have tbF : ∀ a i : Int, 85 ≤ a → a ≤ 94 → lo1 ≤ i → i < hi1 → ¬ (a = 85 ∧ i = F) → el τ' a i = el τ a i := fun a i x1 x2 x3 x4 x5 => h5 a i x1 x2 (by omega) (by omega) (by omega)
  have h87' : el τ' 87 n = F := by rw [h5 87 n (by omega) (by omega) hn.2.1 hn.2.2 (by omega)]; exact h87
  obtain ⟨o0, z0⟩ := pc_sel hp'
  obtain ⟨g1, g2, g3, g4, g5, g6, g7⟩ := id hp'
  obtain ⟨π1, σ1, seg, oF, q1, q2, q3, q4, q5⟩ := hA Xo π' σ' τ' L Kn oi pfF h2 h3 (by omega) tbF
  have q1' : Pc_applyAll N rA π' σ' fc D oi = some (π1, σ1, oF) := q1
  have pf1 : PFx s0 s1 ex π' σ' π1 σ1 := PFx.ft h3 q2.1 (by omega)
  have hp1 : PCf π1 σ1 pc 7 place a b c d := hp'.cg pf1.1 (fun g a b => pf1.2.1 g pc (by omega) (by omega) hs.1 hs.2 (by omega))
  have ng1 := pf1.1.1
  have hL1 : ((L ++ seg).length : Int) = L.length + seg.length := by rw [List.length_append]; omega
  have l20 : (L ++ seg).length + 1 ≤ 20000 := by rw [List.length_append]; omega
  obtain ⟨o1, zz⟩ := pc_sel hp1
  obtain ⟨j1, j2, j3, j4, j5, j6, j7⟩ := id hp1
  obtain ⟨π2, σ2, v1, v2⟩ := mk1_ok (N := N) (K := 11) (place := place) (A := -a) (B := b) (a := a) (b := b) (p := oF) q2.2.2.2 q2.2.1 (by omega) (by decide) (fun _ => by rw [if_pos rfl]) (fun _ => by rw [if_neg (by decide)])
  have pf2 : PFx s0 s1 ex π1 σ1 π2 σ2 := PFx.ft q2.2.1 v2.1 (by omega)
  have hp2 : PCf π2 σ2 pc 7 place a b c d := hp1.cg pf2.1 (fun g a b => pf2.2.1 g pc (by omega) (by omega) hs.1 hs.2 (by omega))
  obtain ⟨o2, zz2⟩ := pc_sel hp2
  obtain ⟨π3, σ3, x1, x2⟩ := mk2i_ok (N := N) (K := 5) (place := place) (p := oi) (q := P + (L ++ seg).length) v2.2.2.2 v2.2.1 (by rw [List.length_append]; simp; omega) (by decide)
  have ado := (q2.tr h3 v2).tr h3 (by rw [← List.append_assoc]; exact x2)
  have hL2 : ((L ++ seg ++ [(11, place, a, b, 0, 0, 0, [(oF, (1 : Int), (1 : Int))])]).length : Int) = L.length + seg.length + 1 := by rw [List.length_append, List.length_append]; simp
  refine ⟨π3, σ3, seg ++ ([(11, place, a, b, 0, 0, 0, [(oF, 1, 1)])] ++ [(5, place, 0, 0, 0, 0, 0, [(oi, 1, 1), (P + (L ++ seg).length, 1, 1)])]), P + (L ++ seg ++ [(11, place, a, b, 0, 0, 0, [(oF, (1 : Int), (1 : Int))])]).length, ?_, ?_, by rw [List.length_append]; simp; omega, fun y hy h9 => ?_, fun x hx => ?_⟩
  · show Pc_apply N rA π' σ' pc D oi = _
    rw [Pc_apply, grd_t g1, g2, grd_t (by decide)]
    iterate 7 rw [if_neg (by decide)]
    rw [if_pos rfl, Pc_applyWithFun, grd_t g1, g2, grd_t (by decide), if_neg (by decide), if_neg (by decide), e126, q1', Option.bind_some, Pc_applyWithFun_187]
    simp only
    rw [grd_t j1, j2, grd_t (by decide)]
    iterate 2 rw [if_neg (by decide)]
    rw [if_pos rfl, Pc_applyWithFun_387, grd_t o1, zz 121, zz 122, zz 123, j3, j4, j5]
    have e1 := v1 (fun π σ o => Pc_applyWithFun_413 N rA π σ pc D oi o)
    have e2 : Pc_applyWithFun_413 N rA π2 σ2 pc D oi (P + (L ++ seg).length) = some (π3, σ3, P + (L ++ seg ++ [(11, place, a, b, 0, 0, 0, [(oF, (1 : Int), (1 : Int))])]).length) := by
      rw [Pc_applyWithFun_413, Pc_applyWithFun_419, grd_t o2, zz2 121, hp2.2.2.1]
      exact x1 (fun π σ o => some (π, σ, o))
    exact (congrArg (fun t => Option.bind t (fun r14 => Pc_apply_536 N rA r14.1 r14.2.1 r14.2.2)) (show _ = some (π3, σ3, P + (L ++ seg ++ [(11, place, a, b, 0, 0, 0, [(oF, (1 : Int), (1 : Int))])]).length) from e1.trans e2)).trans rfl
  · rw [← List.append_assoc]
    exact ado.mono (by omega) (by omega)
  · rcases List.mem_append.1 hy with q | q
    · exact q4 y q h9
    · rcases List.mem_append.1 q with q | q
      · have ey : y = (11, place, a, b, 0, 0, 0, [(oF, 1, 1)]) := by simpa using q
        rw [ey] at h9
        exact absurd (show (11 : Int) = 99 from h9) (by decide)
      · have ey : y = (5, place, 0, 0, 0, 0, 0, [(oi, 1, 1), (P + (L ++ seg).length, 1, 1)]) := by simpa using q
        rw [ey] at h9
        exact absurd (show (5 : Int) = 99 from h9) (by decide)
  · have hl' := HLv_b hx
    rw [hL1, hL2]
    exact tk_off (w := wk) hN hP hn hF' h87' (hv.2.2.1 rfl oF) (q5 x hx) ⟨hl.1, hl.2.1⟩ (by omega) (by omega) (Nat.le_refl _) (by decide) (by decide) (hw_ok (f := 7) hn (by
      rcases hw with q | q
      · exact Or.inl ⟨q.1, by rw [h5 94 n (by omega) (by omega) hn.2.1 hn.2.2 (by omega)]; exact q.2, hF'.2.1, by decide⟩
      · exact Or.inr q))
theorem aps_inside {D P vlo lo hi lo1 hi1 wk n s0 s1 t0 t1 ex pc fc F place a b c d w z A B : Int} {m k : Nat} {Uo : Stq → Prop} {av : List (Int × Int)} {π : Sh} {σ τ : St} (hN : 30000001 ≤ N) (hP : P ≤ 4) (hp : PCf π σ pc 12 place a b c d) (h126 : fl σ 126 pc = fc) (hs : s0 ≤ pc ∧ pc < s1) (ht : (s0 ≤ t0 ∧ t1 ≤ s1) ∧ pc < t0 ∧ s1 ≤ nn π) (hx : ex = pc) (hn : ND lo hi n) (hF : FN τ n place 12 a b c d) (hw : (wk = 11 ∧ el τ 94 n = 13) ∨ wk = 12) (hv : IVf 12 a b c d) (h87 : el τ 87 n = F) (hl : lo ≤ lo1 ∧ hi1 ≤ hi ∧ n < lo1) (hwz : 0 ≤ w ∧ 0 ≤ z) (hav : ∀ x ∈ av, vlo ≤ x.1 ∧ x.1 ≠ n) (hA : APs N D P vlo lo1 hi1 m k w z A B Uo av 11 F t0 t1 (-1) π σ τ (fun π σ p => Pc_applyAll N rA π σ fc D p)) : APs N D P vlo lo hi (m + 2) (k + 3) (w + 1) (z + 1) (A + 12) (B + 120) Uo av wk n s0 s1 ex π σ τ (fun π σ p => Pc_apply N rA π σ pc D p) := by
  intro Xo π' σ' τ' L Kn oi h1 h2 h3 h4 h5
  have kf : ∀ g : Nat, 120 ≤ g → g ≤ 130 → g ≠ 127 → fl σ' g pc = fl σ g pc := fun g a b c => h1.2.1 g pc a b hs.1 hs.2 (by omega)
  have hp' : PCf π' σ' pc 12 place a b c d := hp.cg h1.1 (fun g a b => kf g (by omega) (by omega) (by omega))
  have ng := h1.1.1
  have e126 : fl σ' 126 pc = fc := by rw [kf 126 (by omega) (by omega) (by omega)]; exact h126
  have hF' := hF.tb h5 hn
  have pfF := h1.sub (t0 := t0) (t1 := t1) (ex' := -1) ht.1.1 ht.1.2 (fun _ _ => by omega)
  have tbF : ∀ a i : Int, 85 ≤ a → a ≤ 94 → lo1 ≤ i → i < hi1 → ¬ (a = 85 ∧ i = F) → el τ' a i = el τ a i := fun a i x1 x2 x3 x4 x5 => h5 a i x1 x2 (by omega) (by omega) (by omega)
  have h87' : el τ' 87 n = F := by rw [h5 87 n (by omega) (by omega) hn.2.1 hn.2.2 (by omega)]; exact h87
  obtain ⟨o0, z0⟩ := pc_sel hp'
  obtain ⟨g1, g2, g3, g4, g5, g6, g7⟩ := id hp'
  obtain ⟨π1, σ1, u1, u2⟩ := mk1_ok (N := N) (K := 9) (place := place) (A := 1) (B := a) (a := 1) (b := a) (p := oi) h2 h3 (by omega) (by decide) (fun _ => by rw [if_neg (by decide)]) (fun _ => by rw [if_neg (by decide)])
  have pf1 : PFx s0 s1 ex π' σ' π1 σ1 := PFx.ft h3 u2.1 (by omega)
  have hp1 : PCf π1 σ1 pc 12 place a b c d := hp'.cg pf1.1 (fun g a b => pf1.2.1 g pc (by omega) (by omega) hs.1 hs.2 (by omega))
  have ng1 := pf1.1.1
  have hL1 : ((L ++ [(9, place, 1, a, 0, 0, 0, [(oi, (1 : Int), (1 : Int))])]).length : Int) = L.length + 1 := by rw [List.length_append]; simp
  have hL1n : (L ++ [(9, place, 1, a, 0, 0, 0, [(oi, (1 : Int), (1 : Int))])]).length = L.length + 1 := by rw [List.length_append]; simp
  obtain ⟨π2, σ2, seg, oF, q1, q2, q3, q4, q5⟩ := hA Xo π1 σ1 τ' (L ++ [(9, place, 1, a, 0, 0, 0, [(oi, 1, 1)])]) Kn (P + L.length) (pfF.tr (PFx.ft h3 u2.1 (by omega))) u2.2.2.2 u2.2.1 (by omega) tbF
  have q1' : Pc_applyAll N rA π1 σ1 fc D (P + L.length) = some (π2, σ2, oF) := q1
  have pf2 : PFx s0 s1 ex π1 σ1 π2 σ2 := PFx.ft u2.2.1 q2.1 (by omega)
  have hp2 : PCf π2 σ2 pc 12 place a b c d := hp1.cg pf2.1 (fun g a b => pf2.2.1 g pc (by omega) (by omega) hs.1 hs.2 (by omega))
  obtain ⟨o2, zz2⟩ := pc_sel hp2
  have e126' : fl σ1 126 pc = fc := by rw [pf1.2.1 126 pc (by omega) (by omega) hs.1 hs.2 (by omega)]; exact e126
  obtain ⟨π3, σ3, x1, x2⟩ := mk1_ok (N := N) (K := 9) (place := place) (A := a) (B := 1) (a := a) (b := 1) (p := oF) q2.2.2.2 q2.2.1 (by rw [List.length_append]; omega) (by decide) (fun _ => by rw [if_neg (by decide)]) (fun _ => by rw [if_neg (by decide)])
  have ado := u2.tr h3 (q2.tr u2.2.1 x2)
  have hL2 : ((L ++ [(9, place, 1, a, 0, 0, 0, [(oi, (1 : Int), (1 : Int))])] ++ seg).length : Int) = L.length + 1 + seg.length := by rw [List.length_append, hL1n]; omega
  refine ⟨π3, σ3, [(9, place, 1, a, 0, 0, 0, [(oi, 1, 1)])] ++ (seg ++ [(9, place, a, 1, 0, 0, 0, [(oF, 1, 1)])]), P + (L ++ [(9, place, 1, a, 0, 0, 0, [(oi, (1 : Int), (1 : Int))])] ++ seg).length, ?_, ado.mono (by omega) (by omega), by simp; omega, fun y hy h9 => ?_, fun x hx => ?_⟩
  · show Pc_apply N rA π' σ' pc D oi = _
    rw [Pc_apply, grd_t g1, g2, grd_t (by decide)]
    iterate 12 rw [if_neg (by decide)]
    rw [if_pos rfl, Pc_applyWithFun, grd_t g1, g2, grd_t (by decide), if_pos rfl, Pc_applyWithFun_13, grd_t o0, z0 121, z0 122, g3, g4]
    have e1 := u1 (fun π σ o => Pc_applyWithFun_35 N rA π σ pc D o)
    have e2 : Pc_applyWithFun_35 N rA π1 σ1 pc D (P + L.length) = some (π3, σ3, P + (L ++ [(9, place, 1, a, 0, 0, 0, [(oi, (1 : Int), (1 : Int))])] ++ seg).length) := by
      rw [Pc_applyWithFun_35, grd_t hp1.1, e126', q1', Option.bind_some, Pc_applyWithFun_45, Pc_applyWithFun_51, grd_t o2, zz2 121, zz2 122, hp2.2.2.1, hp2.2.2.2.1]
      exact x1 (fun π σ o => some (π, σ, o))
    exact (congrArg (fun t => Option.bind t (fun r14 => Pc_apply_536 N rA r14.1 r14.2.1 r14.2.2)) (show _ = some (π3, σ3, P + (L ++ [(9, place, 1, a, 0, 0, 0, [(oi, (1 : Int), (1 : Int))])] ++ seg).length) from e1.trans e2)).trans rfl
  · rcases List.mem_append.1 hy with q | q
    · have ey : y = (9, place, 1, a, 0, 0, 0, [(oi, 1, 1)]) := by simpa using q
      rw [ey] at h9
      exact absurd (show (9 : Int) = 99 from h9) (by decide)
    · rcases List.mem_append.1 q with q | q
      · exact q4 y q h9
      · have ey : y = (9, place, a, 1, 0, 0, 0, [(oF, 1, 1)]) := by simpa using q
        rw [ey] at h9
        exact absurd (show (9 : Int) = 99 from h9) (by decide)
  · have hl' := HLv_b hx
    have q5' := q5 x hx
    rw [hL1] at q5'
    rw [hL2]
    exact tk_inside (w := wk) hN hP hn hF' h87' (hv.2.2.2.1 rfl) q5' ⟨hl.1, hl.2.1⟩ (by omega) (by omega) (Nat.le_refl _) (by decide) (by decide) hav (hw_ok (f := 12) hn (by
      rcases hw with q | q
      · exact Or.inl ⟨q.1, by rw [h5 94 n (by omega) (by omega) hn.2.1 hn.2.2 (by omega)]; exact q.2, hF'.2.1, by decide⟩
      · exact Or.inr q))
theorem aps_some {D P vlo lo hi lo1 hi1 wk n s0 s1 t0 t1 ex pc fc F place a b c d w z A B : Int} {m k : Nat} {Uo : Stq → Prop} {av : List (Int × Int)} {π : Sh} {σ τ : St} (hN : 30000001 ≤ N) (hP : P ≤ 4) (hp : PCf π σ pc 18 place a b c d) (h126 : fl σ 126 pc = fc) (hs : s0 ≤ pc ∧ pc < s1) (ht : (s0 ≤ t0 ∧ t1 ≤ s1) ∧ pc < t0 ∧ s1 ≤ nn π) (hx : ex = pc) (hn : ND lo hi n) (hF : FN τ n place 18 a b c d) (hw : (wk = 11 ∧ el τ 94 n = 13) ∨ wk = 12) (hv : IVf 18 a b c d) (h87 : el τ 87 n = F) (hl : lo ≤ lo1 ∧ hi1 ≤ hi ∧ n < lo1) (hwz : 0 ≤ w ∧ 0 ≤ z) (hav : ∀ x ∈ av, vlo ≤ x.1 ∧ x.1 ≠ n) (hA : APs N D P vlo lo1 hi1 m k w z A B Uo av 11 F t0 t1 (-1) π σ τ (fun π σ p => Pc_applyAll N rA π σ fc D p)) : APs N D P vlo lo hi (m + 3) (k + 6) (w + 1) (z + 1) (A + 18) (B + 180) Uo av wk n s0 s1 ex π σ τ (fun π σ p => Pc_apply N rA π σ pc D p) := by
  intro Xo π' σ' τ' L Kn oi h1 h2 h3 h4 h5
  have kf : ∀ g : Nat, 120 ≤ g → g ≤ 130 → g ≠ 127 → fl σ' g pc = fl σ g pc := fun g a b c => h1.2.1 g pc a b hs.1 hs.2 (by omega)
  have hp' : PCf π' σ' pc 18 place a b c d := hp.cg h1.1 (fun g a b => kf g (by omega) (by omega) (by omega))
  have ng := h1.1.1
  have e126 : fl σ' 126 pc = fc := by rw [kf 126 (by omega) (by omega) (by omega)]; exact h126
  have hF' := hF.tb h5 hn
  have pfF := h1.sub (t0 := t0) (t1 := t1) (ex' := -1) ht.1.1 ht.1.2 (fun _ _ => by omega)
  have tbF : ∀ a i : Int, 85 ≤ a → a ≤ 94 → lo1 ≤ i → i < hi1 → ¬ (a = 85 ∧ i = F) → el τ' a i = el τ a i := fun a i x1 x2 x3 x4 x5 => h5 a i x1 x2 (by omega) (by omega) (by omega)
  have h87' : el τ' 87 n = F := by rw [h5 87 n (by omega) (by omega) hn.2.1 hn.2.2 (by omega)]; exact h87
  obtain ⟨o0, z0⟩ := pc_sel hp'
  obtain ⟨g1, g2, g3, g4, g5, g6, g7⟩ := id hp'
  obtain ⟨π1, σ1, u1, u2⟩ := mk1_ok (N := N) (K := 21) (place := place) (A := a) (B := 0) (a := a) (b := 0) (p := oi) h2 h3 (by omega) (by decide) (fun _ => by rw [if_neg (by decide)]) (fun _ => by rw [if_pos (by decide), Int.mul_zero])
  have pf1 : PFx s0 s1 ex π' σ' π1 σ1 := PFx.ft h3 u2.1 (by omega)
  have hp1 : PCf π1 σ1 pc 18 place a b c d := hp'.cg pf1.1 (fun g a b => pf1.2.1 g pc (by omega) (by omega) hs.1 hs.2 (by omega))
  have ng1 := pf1.1.1
  obtain ⟨o1, zz⟩ := pc_sel hp1
  have hL1 : ((L ++ [(21, place, a, 0, 0, 0, 0, [(oi, (1 : Int), (1 : Int))])]).length : Int) = L.length + 1 := by rw [List.length_append]; simp
  have hL1n : (L ++ [(21, place, a, 0, 0, 0, 0, [(oi, (1 : Int), (1 : Int))])]).length = L.length + 1 := by rw [List.length_append]; simp
  obtain ⟨π2, σ2, v1, v2⟩ := mk1_ok (N := N) (K := 22) (place := place) (A := a) (B := 0) (a := a) (b := 0) (p := oi) u2.2.2.2 u2.2.1 (by omega) (by decide) (fun _ => by rw [if_neg (by decide)]) (fun _ => by rw [if_pos (by decide), Int.mul_zero])
  have pf2 : PFx s0 s1 ex π1 σ1 π2 σ2 := PFx.ft u2.2.1 v2.1 (by omega)
  have hp2 : PCf π2 σ2 pc 18 place a b c d := hp1.cg pf2.1 (fun g a b => pf2.2.1 g pc (by omega) (by omega) hs.1 hs.2 (by omega))
  have ng2 := pf2.1.1
  have hL2n : (L ++ [(21, place, a, 0, 0, 0, 0, [(oi, (1 : Int), (1 : Int))])] ++ [(22, place, a, 0, 0, 0, 0, [(oi, (1 : Int), (1 : Int))])]).length = L.length + 2 := by rw [List.length_append, hL1n]; simp
  obtain ⟨π3, σ3, seg, oF, q1, q2, q3, q4, q5⟩ := hA Xo π2 σ2 τ' (L ++ [(21, place, a, 0, 0, 0, 0, [(oi, 1, 1)])] ++ [(22, place, a, 0, 0, 0, 0, [(oi, 1, 1)])]) Kn (P + (L ++ [(21, place, a, 0, 0, 0, 0, [(oi, (1 : Int), (1 : Int))])]).length) ((pfF.tr (PFx.ft h3 u2.1 (by omega))).tr (PFx.ft u2.2.1 v2.1 (by omega))) v2.2.2.2 v2.2.1 (by omega) tbF
  have q1' : Pc_applyAll N rA π2 σ2 fc D (P + (L ++ [(21, place, a, 0, 0, 0, 0, [(oi, (1 : Int), (1 : Int))])]).length) = some (π3, σ3, oF) := q1
  have pf3 : PFx s0 s1 ex π2 σ2 π3 σ3 := PFx.ft v2.2.1 q2.1 (by omega)
  have hp3 : PCf π3 σ3 pc 18 place a b c d := hp2.cg pf3.1 (fun g a b => pf3.2.1 g pc (by omega) (by omega) hs.1 hs.2 (by omega))
  obtain ⟨o3, zz3⟩ := pc_sel hp3
  have e126' : fl σ2 126 pc = fc := by rw [pf2.2.1 126 pc (by omega) (by omega) hs.1 hs.2 (by omega), pf1.2.1 126 pc (by omega) (by omega) hs.1 hs.2 (by omega)]; exact e126
  have hL3n : (L ++ [(21, place, a, 0, 0, 0, 0, [(oi, (1 : Int), (1 : Int))])] ++ [(22, place, a, 0, 0, 0, 0, [(oi, (1 : Int), (1 : Int))])] ++ seg).length = L.length + 2 + seg.length := by rw [List.length_append, hL2n]
  obtain ⟨π4, σ4, x1, x2⟩ := mk2i_ok (N := N) (K := 5) (place := place) (p := P + L.length) (q := oF) q2.2.2.2 q2.2.1 (by omega) (by decide)
  have ado := u2.tr h3 (v2.tr u2.2.1 (q2.tr v2.2.1 x2))
  refine ⟨π4, σ4, [(21, place, a, 0, 0, 0, 0, [(oi, 1, 1)])] ++ ([(22, place, a, 0, 0, 0, 0, [(oi, 1, 1)])] ++ (seg ++ [(5, place, 0, 0, 0, 0, 0, [(P + L.length, 1, 1), (oF, 1, 1)])])), P + (L ++ [(21, place, a, 0, 0, 0, 0, [(oi, (1 : Int), (1 : Int))])] ++ [(22, place, a, 0, 0, 0, 0, [(oi, (1 : Int), (1 : Int))])] ++ seg).length, ?_, ado.mono (by omega) (by omega), by simp; omega, fun y hy h9 => ?_, fun x hx => ?_⟩
  · show Pc_apply N rA π' σ' pc D oi = _
    rw [Pc_apply, grd_t g1, g2, grd_t (by decide)]
    iterate 18 rw [if_neg (by decide)]
    rw [if_pos rfl, Pc_applyWithFun, grd_t g1, g2, grd_t (by decide), if_neg (by decide), if_pos rfl, Pc_applyWithFun_88, grd_t o0, z0 121, z0 122, g3, g4]
    have e1 := u1 (fun π σ o => Pc_applyWithFun_110 N rA π σ pc D oi o)
    have e2 : Pc_applyWithFun_110 N rA π1 σ1 pc D oi (P + L.length) = Pc_applyWithFun_137 N rA π2 σ2 pc D (P + L.length) (P + (L ++ [(21, place, a, 0, 0, 0, 0, [(oi, (1 : Int), (1 : Int))])]).length) := by
      rw [Pc_applyWithFun_110, Pc_applyWithFun_115, grd_t o1, zz 121, zz 122, hp1.2.2.1, hp1.2.2.2.1]
      exact v1 (fun π σ o => Pc_applyWithFun_137 N rA π σ pc D (P + L.length) o)
    have e3 : Pc_applyWithFun_137 N rA π2 σ2 pc D (P + L.length) (P + (L ++ [(21, place, a, 0, 0, 0, 0, [(oi, (1 : Int), (1 : Int))])]).length) = some (π4, σ4, P + (L ++ [(21, place, a, 0, 0, 0, 0, [(oi, (1 : Int), (1 : Int))])] ++ [(22, place, a, 0, 0, 0, 0, [(oi, (1 : Int), (1 : Int))])] ++ seg).length) := by
      rw [Pc_applyWithFun_137, grd_t hp2.1, e126', q1', Option.bind_some, Pc_applyWithFun_149, Pc_applyWithFun_155, grd_t o3, zz3 121, hp3.2.2.1]
      exact x1 (fun π σ o => some (π, σ, o))
    exact (congrArg (fun t => Option.bind t (fun r14 => Pc_apply_536 N rA r14.1 r14.2.1 r14.2.2)) (show _ = some (π4, σ4, P + (L ++ [(21, place, a, 0, 0, 0, 0, [(oi, (1 : Int), (1 : Int))])] ++ [(22, place, a, 0, 0, 0, 0, [(oi, (1 : Int), (1 : Int))])] ++ seg).length) from (e1.trans e2).trans e3)).trans rfl
  · rcases List.mem_append.1 hy with q | q
    · have ey : y = (21, place, a, 0, 0, 0, 0, [(oi, 1, 1)]) := by simpa using q
      rw [ey] at h9
      exact absurd (show (21 : Int) = 99 from h9) (by decide)
    rcases List.mem_append.1 q with q | q
    · have ey : y = (22, place, a, 0, 0, 0, 0, [(oi, 1, 1)]) := by simpa using q
      rw [ey] at h9
      exact absurd (show (22 : Int) = 99 from h9) (by decide)
    rcases List.mem_append.1 q with q | q
    · exact q4 y q h9
    · have ey : y = (5, place, 0, 0, 0, 0, 0, [(P + L.length, 1, 1), (oF, 1, 1)]) := by simpa using q
      rw [ey] at h9
      exact absurd (show (5 : Int) = 99 from h9) (by decide)
  · have hl' := HLv_b hx
    have q5' := q5 x hx
    have c2 : ((L ++ [(21, place, a, 0, 0, 0, 0, [(oi, (1 : Int), (1 : Int))])] ++ [(22, place, a, 0, 0, 0, 0, [(oi, (1 : Int), (1 : Int))])]).length : Int) = L.length + 2 := by omega
    have c3 : ((L ++ [(21, place, a, 0, 0, 0, 0, [(oi, (1 : Int), (1 : Int))])] ++ [(22, place, a, 0, 0, 0, 0, [(oi, (1 : Int), (1 : Int))])] ++ seg).length : Int) = L.length + 2 + seg.length := by omega
    rw [c2, hL1] at q5'
    rw [c3]
    exact tk_some (w := wk) hN hP hn hF' h87' (hv.2.2.2.2 rfl) q5' ⟨hl.1, hl.2.1⟩ (by omega) (by omega) (Nat.le_refl _) (by decide) (by decide) hav (hw_ok (f := 18) hn (by
      rcases hw with q | q
      · exact Or.inl ⟨q.1, by rw [h5 94 n (by omega) (by omega) hn.2.1 hn.2.2 (by omega)]; exact q.2, hF'.2.1, by decide⟩
      · exact Or.inr q))
end AP6
