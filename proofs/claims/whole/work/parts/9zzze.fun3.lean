/-! pieces that have a FUN, both -/
section AP5
variable {N : Nat} {rA : Sh → St → Int → Int → Int → Option (Sh × St × Int)}
theorem FN.tb {τ τ' : St} {lo hi n place f a b c d : Int} (h5 : ∀ a i : Int, 85 ≤ a → a ≤ 94 → lo ≤ i → i < hi → ¬ (a = 85 ∧ i = n) → el τ' a i = el τ a i) (hn : ND lo hi n) (hF : FN τ n place f a b c d) : FN τ' n place f a b c d := by
  have e : ∀ a : Int, 86 ≤ a → a ≤ 94 → el τ' a n = el τ a n := fun a x y => h5 a n (by omega) y hn.2.1 hn.2.2 (by omega)
  obtain ⟨g1, g2, g3, g4, g5, g6⟩ := hF
  exact ⟨by rw [e 93 (by omega) (by omega)]; exact g1, by rw [e 92 (by omega) (by omega)]; exact g2, by rw [e 91 (by omega) (by omega)]; exact g3, by rw [e 90 (by omega) (by omega)]; exact g4, by rw [e 89 (by omega) (by omega)]; exact g5, by rw [e 88 (by omega) (by omega)]; exact g6⟩
/-- every, when, chunk, within -/
theorem aps_fun2 {D P vlo lo hi lo1 hi1 wk n s0 s1 t0 t1 ex pc fc F f place a b c d w z A B : Int} {m k : Nat} {Uo : Stq → Prop} {av : List (Int × Int)} {π : Sh} {σ τ : St} (hN : 30000001 ≤ N) (hP : P ≤ 4) (hp : PCf π σ pc f place a b c d) (h126 : fl σ 126 pc = fc) (hs : s0 ≤ pc ∧ pc < s1) (ht : (s0 ≤ t0 ∧ t1 ≤ s1) ∧ pc < t0 ∧ s1 ≤ nn π) (hx : ex = pc) (hf : f = 5 ∨ f = 6 ∨ f = 11 ∨ f = 19) (hn : ND lo hi n) (hF : FN τ n place f a b c d) (hw : (wk = 11 ∧ el τ 94 n = 13) ∨ wk = 12) (hv : IVf f a b c d) (h87 : el τ 87 n = F) (hl : lo ≤ lo1 ∧ hi1 ≤ hi ∧ n < lo1) (hwz : 0 ≤ w ∧ 0 ≤ z) (hA : APs N D P vlo lo1 hi1 m k w z A B Uo av 11 F t0 t1 (-1) π σ τ (fun π σ p => Pc_applyAll N rA π σ fc D p)) : APs N D P vlo lo hi (m + 1) (k + 3) (w + 1) (z + 1) (A + 6) (B + 60) Uo av wk n s0 s1 ex π σ τ (fun π σ p => Pc_apply N rA π σ pc D p) := by
  intro Xo π' σ' τ' L Kn oi h1 h2 h3 h4 h5
  have kf : ∀ g : Nat, 120 ≤ g → g ≤ 130 → g ≠ 127 → fl σ' g pc = fl σ g pc := fun g a b c => h1.2.1 g pc a b hs.1 hs.2 (by omega)
  have hp' : PCf π' σ' pc f place a b c d := hp.cg h1.1 (fun g a b => kf g (by omega) (by omega) (by omega))
  have ng := h1.1.1
  obtain ⟨π1, σ1, seg, oF, q1, q2, q3, q4, q5⟩ := hA Xo π' σ' τ' L Kn oi (h1.sub ht.1.1 ht.1.2 (fun _ _ => by omega)) h2 h3 (by omega) (fun a i x1 x2 x3 x4 x5 => h5 a i x1 x2 (by omega) (by omega) (by omega))
  have pf1 : PFx s0 s1 ex π' σ' π1 σ1 := PFx.ft h3 q2.1 (by omega)
  have hp1 : PCf π1 σ1 pc f place a b c d := hp'.cg pf1.1 (fun g a b => pf1.2.1 g pc (by omega) (by omega) hs.1 hs.2 (by omega))
  have hL1 : ((L ++ seg).length : Int) = L.length + seg.length := by rw [List.length_append]; omega
  have l20 : (L ++ seg).length ≤ 20000 := by rw [List.length_append]; omega
  obtain ⟨o1, zz⟩ := pc_sel hp1
  obtain ⟨g1, g2, g3, g4, g5, g6, g7⟩ := id hp'
  obtain ⟨j1, j2, j3, j4, j5, j6, j7⟩ := id hp1
  have e126 : fl σ' 126 pc = fc := by rw [kf 126 (by omega) (by omega) (by omega)]; exact h126
  have q1' : Pc_applyAll N rA π' σ' fc D oi = some (π1, σ1, oF) := q1
  have hF' := hF.tb h5 hn
  have ff : 0 ≤ f ∧ f ≤ 20 ∧ f ≠ 14 ∧ f ≠ 15 := by omega
  -- the step
  obtain ⟨π2, σ2, u1, u2⟩ : ∃ π2 σ2, Pc_apply N rA π' σ' pc D oi = some (π2, σ2, P + (L ++ seg).length) ∧ ADo Xo D P (L ++ seg) Kn π1 σ1 τ' [((fK f a b c d).1, place, (fK f a b c d).2.1, (fK f a b c d).2.2.1, (fK f a b c d).2.2.2.1, (fK f a b c d).2.2.2.2, 0, [(oi, 1, 1), (oF, 1, 1)])] π2 σ2 6 60 := by
    rcases hf with hf | hf | hf | hf <;> subst hf
    · obtain ⟨π2, σ2, v1, v2⟩ := mk2_ok (N := N) (K := 13) (place := place) (A := a) (B := 0) (a := a) (b := 0) (p := oi) (q := oF) q2.2.2.2 q2.2.1 l20 (by decide) (fun _ => by rw [if_neg (by decide)]) (fun _ => by rw [if_neg (by decide)])
      refine ⟨π2, σ2, ?_, v2⟩
      rw [Pc_apply, grd_t g1, g2, grd_t (by decide)]
      iterate 5 rw [if_neg (by decide)]
      rw [if_pos rfl, Pc_applyWithFun, grd_t g1, g2, grd_t (by decide), if_neg (by decide), if_neg (by decide), e126, q1', Option.bind_some, Pc_applyWithFun_187]
      simp only
      rw [grd_t j1, j2, grd_t (by decide), if_pos rfl, Pc_applyWithFun_272, grd_t o1, zz 121, zz 122, j3, j4]
      have := v1 (fun π σ o => some (π, σ, o))
      exact (congrArg (fun t => Option.bind t (fun r14 => Pc_apply_536 N rA r14.1 r14.2.1 r14.2.2)) (show _ = some (π2, σ2, P + (L ++ seg).length) from this)).trans rfl
    · obtain ⟨π2, σ2, v1, v2⟩ := mk2_ok (N := N) (K := 14) (place := place) (A := a) (B := b) (a := a) (b := b) (p := oi) (q := oF) q2.2.2.2 q2.2.1 l20 (by decide) (fun _ => by rw [if_neg (by decide)]) (fun _ => by rw [if_neg (by decide)])
      refine ⟨π2, σ2, ?_, v2⟩
      rw [Pc_apply, grd_t g1, g2, grd_t (by decide)]
      iterate 6 rw [if_neg (by decide)]
      rw [if_pos rfl, Pc_applyWithFun, grd_t g1, g2, grd_t (by decide), if_neg (by decide), if_neg (by decide), e126, q1', Option.bind_some, Pc_applyWithFun_187]
      simp only
      rw [grd_t j1, j2, grd_t (by decide), if_neg (by decide), if_pos rfl, Pc_applyWithFun_303, grd_t o1, zz 121, zz 122, zz 123, j3, j4, j5]
      have := v1 (fun π σ o => some (π, σ, o))
      exact (congrArg (fun t => Option.bind t (fun r14 => Pc_apply_536 N rA r14.1 r14.2.1 r14.2.2)) (show _ = some (π2, σ2, P + (L ++ seg).length) from this)).trans rfl
    · obtain ⟨π2, σ2, v1, v2⟩ := mk2_ok (N := N) (K := 15) (place := place) (A := a) (B := 0) (a := a) (b := 0) (p := oi) (q := oF) q2.2.2.2 q2.2.1 l20 (by decide) (fun _ => by rw [if_neg (by decide)]) (fun _ => by rw [if_neg (by decide)])
      refine ⟨π2, σ2, ?_, v2⟩
      rw [Pc_apply, grd_t g1, g2, grd_t (by decide)]
      iterate 11 rw [if_neg (by decide)]
      rw [if_pos rfl, Pc_applyWithFun, grd_t g1, g2, grd_t (by decide), if_neg (by decide), if_neg (by decide), e126, q1', Option.bind_some, Pc_applyWithFun_187]
      simp only
      rw [grd_t j1, j2, grd_t (by decide)]
      iterate 6 rw [if_neg (by decide)]
      rw [if_pos rfl, Pc_applyWithFun_337, grd_t o1, zz 121, zz 122, j3, j4]
      have := v1 (fun π σ o => some (π, σ, o))
      exact (congrArg (fun t => Option.bind t (fun r14 => Pc_apply_536 N rA r14.1 r14.2.1 r14.2.2)) (show _ = some (π2, σ2, P + (L ++ seg).length) from this)).trans rfl
    · obtain ⟨π2, σ2, v1, v2⟩ := mkS2_ok (N := N) (K := 16) (p := oi) (q := oF) hp1 q2.2.2.2 q2.2.1 l20 (Or.inl rfl)
      refine ⟨π2, σ2, ?_, v2⟩
      rw [Pc_apply, grd_t g1, g2, grd_t (by decide)]
      iterate 19 rw [if_neg (by decide)]
      rw [if_pos rfl, Pc_applyWithFun, grd_t g1, g2, grd_t (by decide), if_neg (by decide), if_neg (by decide), e126, q1', Option.bind_some, Pc_applyWithFun_187]
      simp only
      rw [grd_t j1, j2, grd_t (by decide)]
      iterate 14 rw [if_neg (by decide)]
      rw [if_pos rfl]
      have := v1 (fun π σ o => some (π, σ, o))
      exact (congrArg (fun t => Option.bind t (fun r14 => Pc_apply_536 N rA r14.1 r14.2.1 r14.2.2)) (show _ = some (π2, σ2, P + (L ++ seg).length) from this)).trans rfl
  refine ⟨π2, σ2, seg ++ [((fK f a b c d).1, place, (fK f a b c d).2.1, (fK f a b c d).2.2.1, (fK f a b c d).2.2.2.1, (fK f a b c d).2.2.2.2, 0, [(oi, 1, 1), (oF, 1, 1)])], P + (L ++ seg).length, u1, q2.tr h3 u2, by rw [List.length_append]; simp; omega, fun y hy h9 => ?_, fun x hx => ?_⟩
  · rcases List.mem_append.1 hy with q | q
    · exact q4 y q h9
    · have ey : y = ((fK f a b c d).1, place, (fK f a b c d).2.1, (fK f a b c d).2.2.1, (fK f a b c d).2.2.2.1, (fK f a b c d).2.2.2.2, 0, [(oi, 1, 1), (oF, 1, 1)]) := by simpa using q
      rw [ey] at h9
      exact absurd h9 (fK_n99 f a b c d)
  · have hl' := HLv_b hx
    rw [hL1]
    exact tk_fun2 (w := wk) hN hP hn hF' (by rw [h5 87 n (by omega) (by omega) hn.2.1 hn.2.2 (by omega)]; exact h87) hf (hv.2.1 hf oi oF) (q5 x hx) ⟨hl.1, hl.2.1⟩ (by omega) (by omega) (Nat.le_refl _) (Int.le_refl _) (by decide) (hw_ok (f := f) hn (by
      rcases hw with q | q
      · exact Or.inl ⟨q.1, by rw [h5 94 n (by omega) (by omega) hn.2.1 hn.2.2 (by omega)]; exact q.2, hF'.2.1, ff⟩
      · exact Or.inr q))
end AP5
