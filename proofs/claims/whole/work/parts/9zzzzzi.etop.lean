/-! an expression from its beginning -/
section AS9
variable {N : Nat} {b : Bse} {Xo : Int → Prop} {dl : List (Int × Int)}
theorem exp_top {π : Sh} {σ τ : St} {L : List Stq} {Kn : List Int} (hN : 30000001 ≤ N) (hc : CTX b dl) (hW : WTr b.2.2.1) (h : XEs b Xo π σ (sf (sf τ 41 0 0) 13 0 0) L Kn) (hB : PRE (sf (sf τ 41 0 0) 13 0 0) L Kn) : ∃ π' σ' τ' o t, Rd_exp N (Rd_argC N 24) (Rd_funC N 24) π σ = some (π', σ', o) ∧ r_readExp N τ = some τ' ∧ EXo N b dl Xo L Kn 0 14 4 π σ (sf (sf τ 41 0 0) 13 0 0) π' σ' τ' o t := by
  obtain ⟨τs, hτs⟩ : ∃ τs, τs = sf (sf τ 41 0 0) 13 0 0 := ⟨_, rfl⟩
  rw [← hτs] at h hB ⊢
  have s41 : fl τs 41 0 = 0 := by rw [hτs, fl_sfn _ _ _ _ (by decide), fl_sfs]
  have s13 : fl τs 13 0 = 0 := by rw [hτs, fl_sfs]
  have l0 := h.2.1.lf
  have v16 := h.2.2.2.2.2.2.2.2.1
  have bv : 0 ≤ bV b := by obtain ⟨-, -, -, -, -, -, -, -, -, q⟩ := hc; exact q
  obtain ⟨τ1, hτ1⟩ : ∃ τ1, τ1 = nwF τs 1 (-1) 0 := ⟨_, rfl⟩
  have f1 : ∀ g : Nat, g ≠ 41 → fl τ1 g 0 = fl τs g 0 := fun g hg => by rw [hτ1]; exact nwF_fl _ _ _ _ _ _ hg
  have t41 : fl τ1 41 0 = 0 + 1 := by rw [hτ1, nwF_41, s41]
  have nv := nwF_v τs 1 (-1) 0
  rw [s41, ← hτ1] at nv
  have rd1 : RDr (fl τs 16 0) 0 τs τ1 := by rw [hτ1]; exact nwF_rd (RDr.rf _ _ _) _ _ _ (by omega)
  have x1 : XEs b Xo π σ τ1 L Kn := h.rt hc rd1 (by omega) (Int.le_refl _) (by rw [f1 16 (by decide)]; exact v16) (fun g hg => f1 g (by omega))
  have lf1 : lf τ1 = lf τs := by unfold lf; rw [f1 1 (by decide), f1 4 (by decide)]
  have f13 := f1 13 (by decide)
  have f16 := f1 16 (by decide)
  obtain ⟨π', σ', τ', o, t, q1, q2, q3, q4, q5⟩ := exp_all hN hc hW Xo π σ τ1 L Kn 0 x1 (by omega) ⟨t41, nv.1, nv.2.2.1⟩ ⟨by decide, by decide⟩ nv.2.1 (by unfold PRE at hB ⊢; rw [lf1, f16]; exact hB)
  have tb : (t : Int) ≤ 20 * lf τs + 216 := by
    rcases q5 with f | f
    · have := f.2.2
      omega
    · obtain ⟨seg, kn, n, w, z, k, g1, -, -, -, -, -, ⟨-, -, -, g7, -, -⟩, -, -⟩ := f
      have := g1.2.1.lf
      omega
  have start : r_readExp N τ = r_readExp_17 N (N - t) τ' := by
    have e : N = (N - t) + t := by omega
    rw [r_readExp]
    simp only [bnd]
    rw [← hτs, r_begin' (by rw [s41]; decide), Option.bind_some, ← hτ1]
    conv => lhs; arg 2; rw [e]
    exact q2.1 (N - t)
  refine ⟨π', σ', τ', o, t, q1, ?_, q3, rd1.tr q4 (by omega) (Int.le_refl _), ?_⟩
  · obtain ⟨m, hm⟩ : ∃ m, N - t = m + 1 := ⟨N - t - 1, by omega⟩
    have hi := q2.2 ⟨by omega, by omega⟩
    rw [start, hm, r_readExp_17, grd_t (by exact ⟨by have := hi.1; omega, by have := hi.2; omega⟩)]
    rcases q5 with f | f
    · have w := f.1.2.2.1
      have w1 := w.2.2
      by_cases c : 0 < fl τ' 41 0
      · rw [if_pos c, grd_t (by exact ⟨by omega, by omega⟩), if_neg (by omega)]
      · rw [if_neg c]
    · obtain ⟨seg, kn, n, w, z, k, g1, g2, -⟩ := f
      rw [if_neg (by omega)]
  · rcases q5 with f | f
    · exact Or.inl (f.up (by omega) f13 (Int.le_refl _) (by omega))
    · have f' := f
      obtain ⟨seg, kn, n, w, z, k, g1, g2, -⟩ := f
      exact Or.inr (f'.up hc ⟨lf1, f13, f16⟩ (Int.le_refl _) (by omega) (RDr.rf _ _ _) ⟨g2.1, fun _ _ => rfl⟩ (fun _ _ _ => rfl))
end AS9
