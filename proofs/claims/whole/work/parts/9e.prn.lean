/-! patterns that are the same, as a relation; it is kept -/
theorem TN.up {τ : St} : ∀ {d : Nat} {p : Int}, TN τ d p → TN τ (d + 1) p
  | 0, _, h => h.elim
  | _ + 1, _, h => ⟨h.1, h.2.1, h.2.2.1, fun i i0 i1 => (h.2.2.2.1 i i0 i1).up, h.2.2.2.2⟩
theorem TN.le {τ : St} {d : Nat} {p : Int} (h : TN τ d p) : ∀ k, TN τ (d + k) p
  | 0 => h
  | k + 1 => (h.le k).up
theorem CN.up {π : Sh} {σ τ : St} : ∀ {d : Nat} {r p : Int}, CN π σ τ d r p → CN π σ τ (d + 1) r p
  | 0, _, _, h => h.elim
  | _ + 1, _, _, h => ⟨h.1, h.2.1, h.2.2.1, h.2.2.2.1, fun i i0 i1 => (h.2.2.2.2.1 i i0 i1).up, h.2.2.2.2.2⟩
theorem CN.le {π : Sh} {σ τ : St} {d : Nat} {r p : Int} (h : CN π σ τ d r p) : ∀ k, CN π σ τ (d + k) r p
  | 0 => h
  | k + 1 => (h.le k).up
/-- tables that are the same where a pattern reads them -/
def SameT (τ τ' : St) : Prop := ∀ a j, 57 ≤ a → a ≤ 70 → el τ' a j = el τ a j
theorem SameR.t {τ τ' : St} (h : SameR τ τ') : SameT τ τ' := fun a j h1 h2 => h.2 a j (Or.inl ⟨h1, h2⟩)
theorem SameT.kF {τ τ' : St} (h : SameT τ τ') : ∀ (n : Nat) (a : Int), kidF τ' a n = kidF τ a n
  | 0, _ => rfl
  | n + 1, a => by rw [kidF, kidF, h 58 a (by decide) (by decide), h 57 a (by decide) (by decide), h.kF n (a + 1)]
theorem SameT.kL {τ τ' : St} (h : SameT τ τ') (p : Int) : kl τ' p = kl τ p := by
  unfold kl
  rw [h 65 p (by decide) (by decide), h 64 p (by decide) (by decide), h.kF]
theorem SameT.cR {τ τ' : St} (h : SameT τ τ') : ∀ l : List Kid, crS τ' l = crS τ l
  | [] => rfl
  | k :: l => by rw [crS, crS, h.cR l, show cw τ' k.1 = cw τ k.1 from h 62 k.1 (by decide) (by decide)]
theorem SameT.nk {τ τ' : St} (h : SameT τ τ') (p : Int) : NK τ' p ↔ NK τ p := by
  have e57 : ∀ j, el τ' 57 j = el τ 57 j := fun j => h 57 j (by decide) (by decide)
  have e58 : ∀ j, el τ' 58 j = el τ 58 j := fun j => h 58 j (by decide) (by decide)
  have e60 : ∀ j, el τ' 60 j = el τ 60 j := fun j => h 60 j (by decide) (by decide)
  have e61 : ∀ j, el τ' 61 j = el τ 61 j := fun j => h 61 j (by decide) (by decide)
  have e62 : ∀ j, el τ' 62 j = el τ 62 j := fun j => h 62 j (by decide) (by decide)
  have e63 : ∀ j, el τ' 63 j = el τ 63 j := fun j => h 63 j (by decide) (by decide)
  have e64 : ∀ j, el τ' 64 j = el τ 64 j := fun j => h 64 j (by decide) (by decide)
  have e65 : ∀ j, el τ' 65 j = el τ 65 j := fun j => h 65 j (by decide) (by decide)
  have e66 : ∀ j, el τ' 66 j = el τ 66 j := fun j => h 66 j (by decide) (by decide)
  have e67 : ∀ j, el τ' 67 j = el τ 67 j := fun j => h 67 j (by decide) (by decide)
  have e68 : ∀ j, el τ' 68 j = el τ 68 j := fun j => h 68 j (by decide) (by decide)
  have e69 : ∀ j, el τ' 69 j = el τ 69 j := fun j => h 69 j (by decide) (by decide)
  have e70 : ∀ j, el τ' 70 j = el τ 70 j := fun j => h 70 j (by decide) (by decide)
  have ekl := h.kL p
  have ecr := h.cR (kl τ p)
  simp only [NK, NK1, NK2, NK4, NK5, NK6, NK7, NK8, NK9, NK10, NK12, NK13, NK15, NK17, NK18, NK19, NK20, NK23, sub, ekl, ecr, spU, spD, gr, cw, rc, wk, kd, e57, e58, e60, e61, e62, e63, e64, e65, e66, e67, e68, e69, e70]
theorem SameT.tn {τ τ' : St} (h : SameT τ τ') (h48 : fl τ 48 0 ≤ fl τ' 48 0) (h61 : fl τ 61 0 ≤ fl τ' 61 0) : ∀ {d : Nat} {p : Int}, TN τ d p → TN τ' d p
  | 0, _, k => k.elim
  | d + 1, p, k => by
    obtain ⟨⟨a1, a2, a3⟩, a4, ⟨a5, a6, a7, a8⟩, a9, a10⟩ := k
    refine ⟨⟨a1, by omega, a3⟩, ?_, ?_, fun i i0 i1 => ?_, (h.nk p).2 a10⟩
    · unfold rng gr cw rc wk at a4 ⊢
      rw [h 63 p (by decide) (by decide), h 62 p (by decide) (by decide), h 61 p (by decide) (by decide), h 60 p (by decide) (by decide)]
      exact a4
    · rw [h 65 p (by decide) (by decide), h 64 p (by decide) (by decide)]
      exact ⟨a5, a6, by omega, a8⟩
    · rw [h 64 p (by decide) (by decide)] at i1
      show TN τ' d (el τ' 58 (el τ' 65 p + i))
      rw [h 65 p (by decide) (by decide), h 58 _ (by decide) (by decide)]
      exact h.tn h48 h61 (a9 i i0 i1)
theorem SameT.wa {τ τ' : St} (h : SameT τ τ') {π : Sh} {σ : St} {s p : Int} (k : WA π σ τ s p) : WA π σ τ' s p := by
  unfold WA at k ⊢
  rw [h.kL p, h 64 p (by decide) (by decide)]
  obtain ⟨k1, k2, k3, k4⟩ := k
  refine ⟨k1, k2, k3, fun i i0 i1 => ?_⟩
  rw [h 65 p (by decide) (by decide), h 57 _ (by decide) (by decide)]
  exact k4 i i0 i1
theorem SameT.cn {τ τ' : St} (h : SameT τ τ') {π : Sh} {σ : St} : ∀ {d : Nat} {r p : Int}, CN π σ τ d r p → CN π σ τ' d r p
  | 0, _, _, k => k.elim
  | d + 1, r, p, k => by
    obtain ⟨k1, k2, k3, k4, k5, k6⟩ := k
    refine ⟨k1, ?_, k3, ?_, fun i i0 i1 => ?_, ?_⟩
    · unfold gr cw rc wk at k2 ⊢
      rw [h 63 p (by decide) (by decide), h 62 p (by decide) (by decide), h 61 p (by decide) (by decide), h 60 p (by decide) (by decide), h 59 p (by decide) (by decide)]
      exact k2
    · rw [h 64 p (by decide) (by decide)]; exact k4
    · rw [h 64 p (by decide) (by decide)] at i1
      show CN π σ τ' d _ (el τ' 58 (el τ' 65 p + i))
      rw [h 65 p (by decide) (by decide), h 58 _ (by decide) (by decide)]
      exact h.cn (k5 i i0 i1)
    · unfold CK at k6 ⊢
      rw [h 70 p (by decide) (by decide), h 69 p (by decide) (by decide), h 68 p (by decide) (by decide), h 67 p (by decide) (by decide), h 66 p (by decide) (by decide), h.kL p]
      obtain ⟨a1, a2, a3, a4, a5, a6, a7⟩ := k6
      exact ⟨a1, a2, a3, a4, a5, a6, fun hk => h.wa (a7 hk)⟩
/-- patterns that are the same -/
def PRn : PRt := fun π σ τ r p => (r = -1 ∧ p = -1) ∨ (TN τ (el τ 59 p).toNat p ∧ CN π σ τ (el τ 59 p).toNat r p ∧ 1 ≤ el τ 59 p ∧ el τ 59 p ≤ 60)
theorem PRn.same {π : Sh} {σ τ σ' τ' : St} {r p : Int} (hC : SameC σ σ') (hR : SameR τ τ') (h : PRn π σ τ r p) : PRn π σ' τ' r p := by
  rcases h with h | ⟨h1, h2, h3, h4⟩
  · exact Or.inl h
  · right
    have t := hR.t
    rw [t 59 p (by decide) (by decide)]
    exact ⟨t.tn (by rw [hR.1 48 (by unfold inR; omega)]; exact Int.le_refl _) (by rw [hR.1 61 (by unfold inR; omega)]; exact Int.le_refl _) h1, (t.cn h2).same hC, h3, h4⟩
theorem PRn.b {π : Sh} {σ τ : St} {r p : Int} (h : PRn π σ τ r p) : (r = -1 ∧ p = -1) ∨ (ob π r 5 ∧ 0 ≤ p ∧ p < 103000 ∧ (fl σ 102 r = el τ 63 p ∧ 1 ≤ el τ 63 p ∧ el τ 63 p ≤ 1000000) ∧ (fl σ 103 r = el τ 62 p ∧ 0 ≤ el τ 62 p ∧ el τ 62 p ≤ 400) ∧ (fl σ 104 r = el τ 61 p ∧ 1 ≤ el τ 61 p ∧ el τ 61 p ≤ 64) ∧ (fl σ 105 r = el τ 60 p ∧ 0 ≤ el τ 60 p ∧ el τ 60 p ≤ 50000) ∧ fl σ 106 r = el τ 59 p ∧ 1 ≤ el τ 59 p ∧ el τ 59 p ≤ 60) := by
  rcases h with h | ⟨h1, h2, h3, h4⟩
  · exact Or.inl h
  · right
    obtain ⟨⟨g1, g2⟩, ⟨c1, c2⟩, ⟨r1, r2⟩, ⟨w1, w2⟩, -⟩ := h1.rng
    obtain ⟨p1, p2⟩ := h1.pos
    obtain ⟨m, hm⟩ : ∃ m : Nat, (el τ 59 p).toNat = m + 1 := ⟨(el τ 59 p).toNat - 1, by omega⟩
    rw [hm] at h2
    obtain ⟨k1, ⟨k2, k3, k4, k5, k6⟩, -⟩ := h2
    exact ⟨k1, p1, p2, ⟨k2, g1, g2⟩, ⟨k3, c1, c2⟩, ⟨k4, r1, r2⟩, ⟨k5, by show 0 ≤ wk τ p; omega, w2⟩, k6, h3, h4⟩
/-- fuel for every loop -/
def Big (N : Nat) : Prop := sbd 64 + 300000 ≤ N
theorem Big.n {N : Nat} (h : Big N) : 300000 ≤ N := Nat.le_trans (Nat.le_add_left 300000 (sbd 64)) h
/-- the rows of both -/
theorem both_row {N : Nat} (hB : Big N) {π : Sh} {σ τ : St} {r p c : Int} (hS : SHs π) (h : PRn π σ τ r p) (hr : ¬ r = -1) (hY : KY σ) (hsd : fl σ 161 9 = fl τ 95 0 ∧ i32 (fl τ 95 0)) (hc : -1000 ≤ c ∧ c ≤ 100000) : ∃ L : List Evt, Good τ p L ∧ (∃ σ', Rw_workOut N π σ r c = some σ' ∧ EF 0 (sf σ 46 10 0) σ' ∧ fl σ' 46 10 = L.length ∧ At (CE σ') 0 L) ∧ (∃ τ', r_rowOf N τ p c = some τ' ∧ (∀ f i, f ≠ 84 → f ≠ 96 → fl τ' f i = fl τ f i) ∧ (∀ a j, a < 29 ∨ 52 < a → el τ' a j = el τ a j) ∧ fl τ' 84 0 = L.length ∧ At (RE τ') 0 (ab (c * gr τ p) L)) := by
  rcases h with h | ⟨h1, h2, h3, h4⟩
  · exact absurd h.1 hr
  · have e : (el τ 59 p).toNat + (64 - (el τ 59 p).toNat) = 64 := by omega
    have t := h1.le (64 - (el τ 59 p).toNat)
    have k := h2.le (64 - (el τ 59 p).toNat)
    rw [e] at t k
    obtain ⟨-, ⟨c1, c2⟩, -, ⟨w1, w2⟩, -⟩ := t.rng
    have ph := phi_lo (show 0 ≤ wk τ p by omega)
    have hN := hB.n
    have hCB : CB τ 64 p c := ⟨100000, by omega, by omega, by omega, by
      have := Int.mul_le_mul_of_nonneg_left w2 (show (0 : Int) ≤ 100000 + 66 * ((64 : Nat) : Int) by omega)
      omega⟩
    have f46 : fl (sf σ 46 10 0) 46 10 = 0 := fl_sfs _ _ _ _
    refine ⟨rowL τ 64 p c, row_good 64 p c t, ?_, ?_⟩
    · obtain ⟨σ', q1, q2, q3, q4⟩ := c_rows (N := N) (π := π) (τ := τ) (by omega) hsd.2 hS 64 (sf σ 46 10 0) r p c (k.same ((SameC.rf σ).sf _ _ (nF (by omega)))) t hCB (by
        unfold KY
        rw [fl_sfn _ _ _ _ (by decide), fl_sfn _ _ _ _ (by decide)]
        exact hY) (by rw [fl_sfn _ _ _ _ (by decide)]; exact hsd.1) (by omega) (by omega)
      rw [f46] at q2 q3 q4
      refine ⟨σ', ?_, q2, by omega, q4⟩
      rw [Rw_workOut, bnd, q1, Option.bind_some]
    · exact r_rowOf' hB (by omega) t hCB
