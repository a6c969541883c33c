/-! patterns of the class and of the reference that are the same; rows of the class: the frame of it -/
/-- kinds of steps by kinds of the reference -/
def kcO (K : Int) : Int :=
  if K = 1 then 1 else if K = 2 then 2 else if K = 3 then 3 else if K = 4 then 4 else if K = 5 then 8 else if K = 6 then 5 else if K = 7 then 6 else if K = 8 then 7 else if K = 9 then 9 else if K = 10 then 10 else if K = 11 then 10 else if K = 12 then 11 else if K = 13 then 12 else if K = 14 then 13 else if K = 15 then 16 else if K = 16 then 17 else if K = 17 then 14 else if K = 18 then 15 else if K = 19 then 18 else if K = 20 then 24 else if K = 21 then 22 else if K = 22 then 23 else if K = 23 then 19 else if K = 24 then 20 else 21
/-- weights, repeats, ends of a step -/
def WA (π : Sh) (σ τ : St) (s p : Int) : Prop :=
  (ob π (fl σ 211 s) 22 ∧ el τ 64 p ≤ ln π (fl σ 211 s) ∧ 56 ≤ fl σ 211 s) ∧ (ob π (fl σ 212 s) 22 ∧ el τ 64 p ≤ ln π (fl σ 212 s) ∧ 56 ≤ fl σ 212 s) ∧ (ob π (fl σ 213 s) 22 ∧ el τ 64 p ≤ ln π (fl σ 213 s) ∧ 56 ≤ fl σ 213 s) ∧
  ∀ i, 0 ≤ i → i < el τ 64 p → el σ (fl σ 211 s) i = el τ 57 (el τ 65 p + i) % 32 ∧ el σ (fl σ 212 s) i = el τ 57 (el τ 65 p + i) / 32 ∧ el σ (fl σ 213 s) i = wS ((kl τ p).take (i.toNat + 1))
def CK (π : Sh) (σ τ : St) (s p : Int) : Prop :=
  fl σ 200 s = kcO (el τ 70 p) ∧
  (el τ 70 p = 1 → RV (fl σ 207 s) 0 0 (el τ 69 p, el τ 68 p, 0, 1)) ∧
  (el τ 70 p ≠ 1 → el τ 70 p ≠ 3 → el τ 70 p ≠ 5 → fl σ 202 s = if el τ 70 p = 11 then -el τ 69 p else if el τ 70 p = 4 ∨ el τ 70 p = 6 ∨ el τ 70 p = 7 then wS (kl τ p) else el τ 69 p) ∧
  (7 ≤ el τ 70 p → fl σ 203 s = if el τ 70 p = 7 then el τ 69 p else if el τ 70 p = 21 ∨ el τ 70 p = 22 then 1000003 * el τ 68 p else el τ 68 p) ∧
  (el τ 70 p = 8 ∨ el τ 70 p = 16 ∨ el τ 70 p = 20 → fl σ 204 s = el τ 67 p) ∧
  (el τ 70 p = 16 ∨ el τ 70 p = 20 → fl σ 205 s = el τ 66 p) ∧
  (el τ 70 p = 4 ∨ el τ 70 p = 6 ∨ el τ 70 p = 7 → WA π σ τ s p)
def CN (π : Sh) (σ τ : St) : Nat → Int → Int → Prop
  | 0, _, _ => False
  | d + 1, r, p => ob π r 5 ∧ (fl σ 102 r = gr τ p ∧ fl σ 103 r = cw τ p ∧ fl σ 104 r = rc τ p ∧ fl σ 105 r = wk τ p ∧ fl σ 106 r = el τ 59 p) ∧ ob π (fl σ 100 r) 10 ∧ (ob π (fl σ 101 r) 26 ∧ ln π (fl σ 101 r) = el τ 64 p ∧ (56 ≤ fl σ 101 r ∨ el τ 64 p = 0)) ∧ (∀ i, 0 ≤ i → i < el τ 64 p → CN π σ τ d (el σ (fl σ 101 r) i) (kd τ p i)) ∧ CK π σ τ (fl σ 100 r) p
theorem CN.same {π : Sh} {σ σ' τ : St} (h : SameC σ σ') : ∀ {d : Nat} {r p : Int}, CN π σ τ d r p → CN π σ' τ d r p
  | 0, _, _, k => k.elim
  | d + 1, r, p, k => by
    have f : ∀ f i, (100 ≤ f ∧ f < 120) ∨ (200 ≤ f ∧ f < 220) → fl σ' f i = fl σ f i := fun f i hf => h.1 f i (by unfold inF; omega)
    obtain ⟨k1, k2, k3, ⟨k4, k5, k6⟩, k7, k8⟩ := k
    refine ⟨k1, ?_, ?_, ?_, fun i i0 i1 => ?_, ?_⟩
    · rw [f 102 r (by omega), f 103 r (by omega), f 104 r (by omega), f 105 r (by omega), f 106 r (by omega)]; exact k2
    · rw [f 100 r (by omega)]; exact k3
    · rw [f 101 r (by omega)]; exact ⟨k4, k5, k6⟩
    · rw [f 101 r (by omega), h.2 _ _ (by omega)]
      exact CN.same h (k7 i i0 i1)
    · rw [f 100 r (by omega)]
      unfold CK at k8 ⊢
      rw [f 200 _ (by omega), f 207 _ (by omega), f 202 _ (by omega), f 203 _ (by omega), f 204 _ (by omega), f 205 _ (by omega)]
      obtain ⟨a1, a2, a3, a4, a5, a6, a7⟩ := k8
      refine ⟨a1, a2, a3, a4, a5, a6, fun hk => ?_⟩
      obtain ⟨b1, b2, b3, b4⟩ := a7 hk
      unfold WA
      rw [f 211 _ (by omega), f 212 _ (by omega), f 213 _ (by omega)]
      refine ⟨b1, b2, b3, fun i i0 i1 => ?_⟩
      rw [h.2 _ _ (Or.inl b1.2.2), h.2 _ _ (Or.inl b2.2.2), h.2 _ _ (Or.inl b3.2.2)]
      exact b4 i i0 i1
theorem EF.same {m : Int} {σ σ' : St} (h : EF m σ σ') : SameC σ σ' := ⟨fun f i hf => h.1 f i (by unfold inF at hf; omega) (by unfold inF at hf; omega) (by unfold inF at hf; omega), fun a j ha => h.2.2.1 a j (by omega)⟩
theorem EF.cn {m : Int} {π : Sh} {σ σ' τ : St} (h : EF m σ σ') {d : Nat} {r p : Int} (k : CN π σ τ d r p) : CN π σ' τ d r p := k.same h.same
/-- which cycles may be asked -/
def CB (τ : St) (d : Nat) (p c : Int) : Prop := ∃ X : Int, 0 ≤ X ∧ -X ≤ c ∧ c ≤ X ∧ (X + 66 * d) * wk τ p ≤ 10000000000
theorem CB.kid {τ : St} {d : Nat} {p q c c' m : Int} (h : CB τ (d + 1) p c) (hm : 1 ≤ m) (hq : 1 ≤ wk τ q) (hg : m * wk τ q ≤ wk τ p) (hc : ∀ X : Int, 0 ≤ X → -X ≤ c → c ≤ X → -((X + 65) * m) ≤ c' ∧ c' ≤ (X + 65) * m) : CB τ d q c' := by
  obtain ⟨X, x0, x1, x2, x3⟩ := h
  obtain ⟨y1, y2⟩ := hc X x0 x1 x2
  refine ⟨(X + 65) * m, Int.mul_nonneg (by omega) (by omega), y1, y2, ?_⟩
  have u1 : 66 * (d : Int) ≤ 66 * (d : Int) * m := by
    have := Int.mul_le_mul_of_nonneg_left hm (show (0 : Int) ≤ 66 * (d : Int) by omega)
    omega
  have u2 : (X + 65) * m + 66 * (d : Int) ≤ (X + 65 + 66 * d) * m := by rw [Int.add_mul (X + 65)]; omega
  have u3 := Int.mul_le_mul_of_nonneg_right u2 (show (0 : Int) ≤ wk τ q by omega)
  rw [Int.mul_assoc] at u3
  have u4 : (X + 65 + 66 * (d : Int)) * (m * wk τ q) ≤ (X + 65 + 66 * d) * wk τ p := Int.mul_le_mul_of_nonneg_left hg (by omega)
  have g0 : 0 ≤ wk τ p := by
    have := Int.mul_nonneg (show (0 : Int) ≤ m by omega) (show (0 : Int) ≤ wk τ q by omega)
    omega
  have u5 : (X + 65 + 66 * (d : Int)) * wk τ p ≤ (X + 66 * ((d + 1 : Nat) : Int)) * wk τ p := Int.mul_le_mul_of_nonneg_right (by omega) g0
  omega
theorem CB.same {τ : St} {d : Nat} {p q c c' : Int} (h : CB τ (d + 1) p c) (hq : 1 ≤ wk τ q) (hg : wk τ q ≤ wk τ p) (h1 : c - 65 ≤ c') (h2 : c' ≤ c + 65) : CB τ d q c' :=
  h.kid (m := 1) (by omega) hq (by omega) (fun X a b c => by constructor <;> omega)
theorem CB.abs {τ : St} {d : Nat} {p c : Int} (h : CB τ d p c) (hr : rng τ p) : -10000000000 ≤ c ∧ c ≤ 10000000000 ∧ -10000000000000000 ≤ c * gr τ p ∧ c * gr τ p ≤ 10000000000000000 := by
  obtain ⟨X, x0, x1, x2, x3⟩ := h
  obtain ⟨⟨g1, g2⟩, -, -, ⟨w1, w2⟩, -⟩ := hr
  have a1 : X * wk τ p ≤ (X + 66 * d) * wk τ p := Int.mul_le_mul_of_nonneg_right (by omega) (by omega)
  have a2 : X * 1 ≤ X * wk τ p := Int.mul_le_mul_of_nonneg_left w1 x0
  have a3 : c * gr τ p ≤ X * gr τ p := Int.mul_le_mul_of_nonneg_right x2 (by omega)
  have a4 : -X * gr τ p ≤ c * gr τ p := Int.mul_le_mul_of_nonneg_right x1 (by omega)
  have a5 : X * gr τ p ≤ 10000000000 * 1000000 := Int.mul_le_mul (by omega) g2 (by omega) (by omega)
  rw [Int.neg_mul] at a4
  refine ⟨by omega, by omega, by omega, by omega⟩
theorem dv_le {a b : Int} (h : a ∣ b) (hb : 1 ≤ b) : a ≤ b := Int.le_of_dvd (by omega) h
/-- the class works out rows: what is shown for each depth -/
def HC (N : Nat) (π : Sh) (τ : St) (d : Nat) : Prop := ∀ (σ : St) (r p c : Int), CN π σ τ d r p → TN τ d p → CB τ d p c → KY σ → fl σ 161 9 = fl τ 95 0 → 0 ≤ fl σ 46 10 → fl σ 46 10 + cw τ p + phi (wk τ p) ≤ 6000 → ∃ σ', Rw_rowC N d π σ r c = some σ' ∧ EF (fl σ 46 10) σ σ' ∧ fl σ' 46 10 = fl σ 46 10 + (rowL τ d p c).length ∧ At (CE σ') (fl σ 46 10) (rowL τ d p c)
/-- what a kind of node is to give -/
def HK (σ : St) (L : List Evt) (x : Option St) : Prop := ∃ σ', x = some σ' ∧ EF (fl σ 46 10) σ σ' ∧ fl σ' 46 10 = fl σ 46 10 + L.length ∧ At (CE σ') (fl σ 46 10) L
/-- all that is known as a node is worked out -/
def PH (N : Nat) (π : Sh) (τ : St) (d : Nat) (σ : St) (r p c : Int) : Prop := HC N π τ d ∧ CN π σ τ (d + 1) r p ∧ TN τ (d + 1) p ∧ CB τ (d + 1) p c ∧ KY σ ∧ fl σ 161 9 = fl τ 95 0 ∧ 0 ≤ fl σ 46 10 ∧ fl σ 46 10 + cw τ p + phi (wk τ p) ≤ 6000 ∧ 6001 ≤ N ∧ SHs π
section CR
variable {N : Nat} {π : Sh} {τ : St} {d : Nat} {σ : St} {r p c : Int}
/-- a kid's row, worked out at a later state -/
theorem PH.kid (h : PH N π τ d σ r p c) {σ1 : St} {i c' m0 : Int} (hE : EF m0 σ σ1) (h0 : 0 ≤ i) (h1 : i < el τ 64 p) (hc : CB τ d (kd τ p i) c') (ht : 0 ≤ fl σ1 46 10) (hl : fl σ1 46 10 + cw τ (kd τ p i) + phi (wk τ (kd τ p i)) ≤ 6000) : ∃ σ2, Rw_rowC N d π σ1 (el σ (fl σ 101 r) i) c' = some σ2 ∧ EF (fl σ1 46 10) σ1 σ2 ∧ fl σ2 46 10 = fl σ1 46 10 + (rowL τ d (kd τ p i) c').length ∧ At (CE σ2) (fl σ1 46 10) (rowL τ d (kd τ p i) c') := by
  obtain ⟨h1', h2, h3, h4, h5, h6, h7, h8, h9, h10⟩ := h
  have cn := h2.2.2.2.2.1 i h0 h1
  refine h1' σ1 _ _ c' (hE.cn cn) (h3.2.2.2.1 i h0 h1) hc (hE.2.1 h5) ?_ ht hl
  rw [hE.1 161 9 (by decide) (by decide) (by decide)]
  exact h6
/-- what is read of the node at a later state -/
theorem PH.at (h : PH N π τ d σ r p c) {σ1 : St} {m0 : Int} (hE : EF m0 σ σ1) : (ob π r 5 ∧ fl σ1 100 r = fl σ 100 r ∧ fl σ1 101 r = fl σ 101 r ∧ fl σ1 102 r = gr τ p) ∧ ob π (fl σ 100 r) 10 ∧ ob π (fl σ 101 r) 26 ∧ ln π (fl σ 101 r) = el τ 64 p ∧ (∀ i, 0 ≤ i → i < el τ 64 p → el σ1 (fl σ 101 r) i = el σ (fl σ 101 r) i ∧ ob π (el σ (fl σ 101 r) i) 5 ∧ fl σ1 102 (el σ (fl σ 101 r) i) = gr τ (kd τ p i) ∧ fl σ1 104 (el σ (fl σ 101 r) i) = rc τ (kd τ p i)) ∧ (∀ f, 200 ≤ f → fl σ1 f (fl σ 100 r) = fl σ f (fl σ 100 r)) ∧ CK π σ τ (fl σ 100 r) p := by
  obtain ⟨h1', ⟨k1, k2, k3, ⟨k4, k5, k6⟩, k7, k8⟩, h3, h4, h5, h6, h7, h8, h9, h10⟩ := h
  have ff : ∀ f i, f ≠ 46 → f ≠ 52 → f ≠ 53 → fl σ1 f i = fl σ f i := hE.1
  refine ⟨⟨k1, ff _ _ (by decide) (by decide) (by decide), ff _ _ (by decide) (by decide) (by decide), by rw [ff _ _ (by decide) (by decide) (by decide)]; exact k2.1⟩, k3, k4, k5, fun i i0 i1 => ?_, fun f hf => ff _ _ (by omega) (by omega) (by omega), k8⟩
  have cn := k7 i i0 i1
  cases d with
  | zero => exact cn.elim
  | succ d =>
    refine ⟨hE.2.2.1 _ _ (by omega), cn.1, ?_, ?_⟩
    · rw [ff _ _ (by decide) (by decide) (by decide)]; exact cn.2.1.1
    · rw [ff _ _ (by decide) (by decide) (by decide)]; exact cn.2.1.2.2.1
/-- numbers of a kid -/
theorem PH.kn (h : PH N π τ d σ r p c) {i : Int} (h0 : 0 ≤ i) (h1 : i < el τ 64 p) : TN τ d (kd τ p i) ∧ rng τ (kd τ p i) := ⟨h.2.2.1.2.2.2.1 i h0 h1, (h.2.2.1.2.2.2.1 i h0 h1).rng⟩
/-- a kid's row, then stretched and moved -/
theorem PH.kidmv (h : PH N π τ d σ r p c) {σ1 : St} {i c' m0 k b : Int} (hE : EF m0 σ σ1) (h0 : 0 ≤ i) (h1 : i < el τ 64 p) (hc : CB τ d (kd τ p i) c') (ht : 0 ≤ fl σ1 46 10) (hl : fl σ1 46 10 + cw τ (kd τ p i) + phi (wk τ (kd τ p i)) ≤ 6000) (hk : i64 k) (hb : i64 b) : ∃ σ2 σ3, Rw_rowC N d π σ1 (el σ (fl σ 101 r) i) c' = some σ2 ∧ EF (fl σ1 46 10) σ1 σ2 ∧ Es_scale N π σ2 (fl σ1 46 10) k b = some σ3 ∧ EF (fl σ1 46 10) σ1 σ3 ∧ fl σ3 46 10 = fl σ1 46 10 + (mv k b (rowL τ d (kd τ p i) c')).length ∧ At (CE σ3) (fl σ1 46 10) (mv k b (rowL τ d (kd τ p i) c')) := by
  obtain ⟨σ2, q1, q2, q3, q4⟩ := h.kid hE h0 h1 hc ht hl
  have g := row_good d (kd τ p i) c' (h.kn h0 h1).1
  have gl := g.1
  obtain ⟨-, -, -, ⟨w1, w2⟩, -⟩ := (h.kn h0 h1).2
  have ph := phi_lo (show 0 ≤ wk τ (kd τ p i) by omega)
  obtain ⟨σ3, s1, s2, s3, s4⟩ := c_scale (N := N) (π := π) (k := k) (b := b) h.2.2.2.2.2.2.2.2.1 q4 ht (by rw [q3]) (by rw [q3]; omega) hk hb
  exact ⟨σ2, σ3, q1, q2, s1, q2.tr s2 (Int.le_refl _), by rw [s3, q3, mv_len], s4⟩
end CR
