/-! what functions want: all of it -/
section WF9
variable {N : Nat} {b : Bse} {Xo : Int → Prop} {dl : List (Int × Int)} {rA rF : Sh → St → Option (Sh × St × Int)}
/-- the class's loop -/
theorem cw_top {n : Nat} {π : Sh} {σ : St} {pc v i : Int} (hi : 0 ≤ i ∧ i < 3) (hv : 0 ≤ v ∧ v ≤ 80) (h : fl σ 182 1 = 0) : ∃ s0, (s0 = if chW (v + i + 1) = 32 then (1 : Int) else 0) ∧ Rd_wants_9 N rA rF (n + 1) π σ pc v i = Rd_wants_44 N rA rF (Rd_wants_9 N rA rF n) π σ pc v i s0 := by
  have hc : i32 (chW (v + i + 1)) := by
    have : ∀ k : Fin 84, i32 (chW (k.val : Int)) := by decide
    have w := this ⟨(v + i + 1).toNat, by omega⟩
    have e : (((v + i + 1).toNat : Nat) : Int) = v + i + 1 := by omega
    rw [e] at w
    exact w
  refine ⟨_, rfl, ?_⟩
  rw [Rd_wants_9, grd_t (by exact ⟨by omega, by omega⟩), if_pos hi.2, h, grd_t (by decide), if_pos rfl, grd_t (by exact ⟨by omega, by omega⟩), grd_t hc]
  by_cases c : chW (v + i + 1) = 32
  · rw [if_pos c, if_pos c]
  · rw [if_neg c, if_neg c]
theorem cw_num {n : Nat} {π : Sh} {σ σ' : St} {pc v i w : Int} (hi : 0 ≤ i ∧ i < 3) (hv : 0 ≤ v ∧ v ≤ 80) (h : fl σ 182 1 = 0) (hw : (w = 1 ∧ chW (v + i) = 65) ∨ (w = 2 ∧ chW (v + i) = 78)) (hr : (if w = 1 then Rd_fraction N π σ pc (if i = 0 then 1 else 0) else Rd_count N π σ pc (if i = 0 then 1 else 0)) = some σ') : Rd_wants_9 N rA rF (n + 1) π σ pc v i = Rd_wants_9 N rA rF n π σ' pc v (i + 1) := by
  obtain ⟨s0, -, e⟩ := cw_top (N := N) (rA := rA) (rF := rF) (n := n) (π := π) (pc := pc) hi hv h
  rw [e, Rd_wants_44, grd_t (by exact ⟨by omega, by omega⟩)]
  rcases hw with ⟨w1, w2⟩ | ⟨w1, w2⟩
  · rw [if_pos w1] at hr
    rw [w2, grd_t (by decide), if_pos rfl, grd_t (by exact ⟨by omega, by omega⟩)]
    by_cases c : i = 0
    · rw [if_pos c] at hr
      rw [if_pos c, Rd_wants_99, hr, Option.bind_some]; rfl
    · rw [if_neg c] at hr
      rw [if_neg c, Rd_wants_99, hr, Option.bind_some]; rfl
  · rw [if_neg (by omega)] at hr
    rw [w2, grd_t (by decide), if_neg (by decide), if_neg (by decide), if_pos rfl, grd_t (by exact ⟨by omega, by omega⟩)]
    by_cases c : i = 0
    · rw [if_pos c] at hr
      rw [if_pos c, Rd_wants_116, hr, Option.bind_some]; rfl
    · rw [if_neg c] at hr
      rw [if_neg c, Rd_wants_116, hr, Option.bind_some]; rfl
theorem cw_fun {n : Nat} {π π' : Sh} {σ σ' : St} {pc v i fc : Int} (hi : 0 ≤ i ∧ i < 3) (hv : 0 ≤ v ∧ v ≤ 80) (h : fl σ 182 1 = 0) (hw : chW (v + i) = 70) (hr : rF π σ = some (π', σ', fc)) (ho : ob π' pc 6) : Rd_wants_9 N rA rF (n + 1) π σ pc v i = Rd_wants_9 N rA rF n π' (sf σ' 126 pc fc) pc v (i + 1) := by
  obtain ⟨s0, -, e⟩ := cw_top (N := N) (rA := rA) (rF := rF) (n := n) (π := π) (pc := pc) hi hv h
  rw [e, Rd_wants_44, grd_t (by exact ⟨by omega, by omega⟩), hw, grd_t (by decide), if_neg (by decide), if_pos rfl, hr, Option.bind_some]
  simp only
  rw [Rd_wants_127, grd_t ho]
  rfl
theorem cw_pat {n : Nat} {π π' : Sh} {σ σ' σ'' : St} {pc v i o : Int} (hi : 0 ≤ i ∧ i < 3) (hv : 0 ≤ v ∧ v ≤ 80) (h : fl σ 182 1 = 0) (hw : chW (v + i) = 80 ∧ chW (v + i + 1) ≠ 32) (hr : rA π σ = some (π', σ', o)) (hg : Pc_give N π' σ' pc o = some σ'') (ho : ob π' pc 6) : Rd_wants_9 N rA rF (n + 1) π σ pc v i = Rd_wants_9 N rA rF n π' σ'' pc v (i + 1) := by
  obtain ⟨s0, hs, e⟩ := cw_top (N := N) (rA := rA) (rF := rF) (n := n) (π := π) (pc := pc) hi hv h
  rw [if_neg hw.2] at hs
  rw [e, Rd_wants_44, grd_t (by exact ⟨by omega, by omega⟩), hw.1, grd_t (by decide), if_neg (by decide), if_neg (by decide), if_neg (by decide), hs, grd_t (by decide), if_pos rfl, hr, Option.bind_some]
  simp only
  rw [Rd_wants_144, hg, Option.bind_some, grd_t ho]
  rfl
theorem cw_stop {n : Nat} {π : Sh} {σ : St} {pc v i : Int} (hi : 0 ≤ i ∧ i ≤ 3) (hv : 0 ≤ v ∧ v ≤ 80) (hf : i32 (fl σ 182 1)) (h : fl σ 182 1 ≠ 0 ∨ i = 3 ∨ (chW (v + i) = 80 ∧ chW (v + i + 1) = 32)) : Rd_wants_9 N rA rF (n + 1) π σ pc v i = some (π, σ) := by
  by_cases c : i < 3
  · by_cases c2 : fl σ 182 1 = 0
    · obtain ⟨s0, hs, e⟩ := cw_top (N := N) (rA := rA) (rF := rF) (n := n) (π := π) (pc := pc) ⟨hi.1, c⟩ hv c2
      have w : chW (v + i) = 80 ∧ chW (v + i + 1) = 32 := by
        rcases h with q | q | q
        · exact absurd c2 q
        · omega
        · exact q
      rw [if_pos w.2] at hs
      rw [e, Rd_wants_44, grd_t (by exact ⟨by omega, by omega⟩), w.1, grd_t (by decide), if_neg (by decide), if_neg (by decide), if_neg (by decide), hs, grd_t (by decide), if_neg (by decide)]
    · rw [Rd_wants_9, grd_t (by exact ⟨by omega, by omega⟩), if_pos c, grd_t hf, if_neg c2]
  · rw [Rd_wants_9, grd_t (by exact ⟨by omega, by omega⟩), if_neg c]
/-- numbers of the first wish are as they should be -/
def NV1 (f a a2 : Int) : Prop := ((f ≤ 3 ∨ f = 7 ∨ f = 19 ∨ f = 20) → (0 ≤ a ∧ a ≤ 64) ∧ (1 ≤ a2 ∧ a2 ≤ 64) ∧ (a2 = 1 ∨ a % a2 ≠ 0) ∧ (f = 0 ∨ f = 1 → 1 ≤ a) ∧ (f = 19 ∨ f = 20 → a ≤ a2)) ∧ ((f = 5 ∨ f = 6 ∨ f = 9 ∨ f = 10 ∨ f = 11 ∨ f = 12) → 1 ≤ a ∧ a ≤ 32 ∧ (f = 6 ∨ a2 = 0)) ∧ (f = 13 → 0 ≤ a ∧ a ≤ 32 ∧ a2 = 0) ∧ ((f = 16 ∨ f = 17 ∨ f = 18) → 0 ≤ a ∧ a ≤ 1000 ∧ a2 = 0)
/-- all numbers are as they should be -/
def NVa (f a a2 c c2 : Int) : Prop := NV1 f a a2 ∧ ((f = 4 ∨ f = 8 ∨ f = 14 ∨ f = 15) → a = 0 ∧ a2 = 0 ∧ c = 0 ∧ c2 = 0) ∧ (f = 6 → 0 ≤ a2 ∧ a2 ≤ 32) ∧ ((f = 19 ∨ f = 20) → (0 ≤ c ∧ c ≤ 64) ∧ (1 ≤ c2 ∧ c2 ≤ 64) ∧ c ≤ c2 ∧ a * c2 < c * a2)
theorem NVa.iv {f a a2 c c2 : Int} (hf : 0 ≤ f ∧ f ≤ 20) (h : NVa f a a2 c c2) : IVf f a a2 c c2 := by
  obtain ⟨⟨h1, h2, h3, h4⟩, h5, h6, h7⟩ := h
  refine ⟨fun q p => ?_, fun q p r => ?_, fun q p => ?_, fun q => ?_, fun q => ?_⟩
  · unfold isOne at q
    unfold IV fK
    rcases q with q | q | q | q | q | q | q | q | q | q | q
    · have w := h1 (by omega); subst q; simp; exact ⟨by omega, by omega⟩
    · have w := h1 (by omega); subst q; simp; exact ⟨by omega, by omega⟩
    · have w := h1 (by omega); subst q; simp; exact ⟨by omega, by omega, w.2.2.1⟩
    · have w := h1 (by omega); subst q; simp; exact ⟨by omega, by omega, w.2.2.1⟩
    · subst q; simp
    · have w := h2 (by omega); subst q; simp; omega
    · have w := h2 (by omega); subst q; simp; omega
    · have w := h3 q; subst q; simp; omega
    · have w := h4 (by omega); subst q; simp; omega
    · have w := h4 (by omega); subst q; simp; omega
    · have w := h1 (by omega); have w2 := h7 (by omega); subst q; simp
      have m : c * a2 - a * c2 > 0 := by omega
      exact ⟨⟨by omega, by omega⟩, by omega, ⟨by omega, by omega⟩, by omega, by omega⟩
  · unfold IV fK
    rcases q with q | q | q | q
    · have w := h2 (by omega); subst q; simp; omega
    · have w := h2 (by omega); have w2 := h6 q; subst q; simp; omega
    · have w := h2 (by omega); subst q; simp; omega
    · have w := h1 (by omega); have w2 := h7 (by omega); subst q; simp; omega
  · have w := h1 (by omega)
    unfold IV
    simp
    exact ⟨by omega, by omega, w.2.2.1⟩
  · have w := h2 (by omega); omega
  · have w := h4 (by omega); omega
end WF9
