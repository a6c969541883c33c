/-! bounds of a pattern: the class measures them -/
/-- a step of the class, by the reference's kind and numbers -/
def WAx (π : Sh) (σ : St) (s : Int) (l : List Kid) : Prop :=
  (ob π (fl σ 211 s) 22 ∧ l.length ≤ ln π (fl σ 211 s) ∧ 56 ≤ fl σ 211 s) ∧ (ob π (fl σ 212 s) 22 ∧ l.length ≤ ln π (fl σ 212 s) ∧ 56 ≤ fl σ 212 s ∧ ln π (fl σ 212 s) < 100000) ∧ (ob π (fl σ 213 s) 22 ∧ l.length ≤ ln π (fl σ 213 s) ∧ 56 ≤ fl σ 213 s) ∧
  At (fun i k => el σ (fl σ 211 s) i = k.2.1 ∧ el σ (fl σ 212 s) i = k.2.2) 0 l ∧ ∀ i : Int, 0 ≤ i → i < l.length → el σ (fl σ 213 s) i = wS (l.take (i.toNat + 1))
def CKx (π : Sh) (σ : St) (s K a b c d : Int) (l : List Kid) : Prop :=
  fl σ 200 s = kcO K ∧
  (K = 1 → RV (fl σ 207 s) 0 0 (a, b, 0, 1)) ∧
  (K ≠ 1 → K ≠ 3 → K ≠ 5 → fl σ 202 s = if K = 11 then -a else if K = 4 ∨ K = 6 ∨ K = 7 then wS l else a) ∧
  (7 ≤ K → fl σ 203 s = if K = 7 then a else if K = 21 ∨ K = 22 then 1000003 * b else b) ∧
  (K = 8 ∨ K = 16 ∨ K = 20 → fl σ 204 s = c) ∧
  (K = 16 ∨ K = 20 → fl σ 205 s = d) ∧
  (K = 4 ∨ K = 6 ∨ K = 7 → WAx π σ s l) ∧ (¬ (K = 4 ∨ K = 6 ∨ K = 7) → fl σ 212 s < 0)
theorem At.imp2 {α : Type} {Q Q' Q2 : Int → α → Prop} : ∀ {l : List α} {a : Int}, (∀ i e, a ≤ i → i < a + l.length → Q i e → Q' i e → Q2 i e) → At Q a l → At Q' a l → At Q2 a l
  | [], _, _, _, _ => trivial
  | e :: l, a, h, k, k' => by
    simp only [List.length_cons] at h
    exact ⟨h a e (Int.le_refl _) (by omega) k.1 k'.1, At.imp2 (fun i x a1 a2 => h i x (by omega) (by omega)) k.2 k'.2⟩
/-- repeats of a step, whatever it is -/
theorem CKx.rp {π : Sh} {σ : St} {s K a b c d : Int} {l : List Kid} (h : CKx π σ s K a b c d l) (hv : IV K a b c d l) : At (RPq π σ s) 0 l := by
  obtain ⟨-, -, -, -, -, -, h7, h8⟩ := h
  by_cases c : K = 4 ∨ K = 6 ∨ K = 7
  · obtain ⟨-, ⟨w1, w2, w3, w4⟩, -, w5, -⟩ := h7 c
    exact w5.mono (fun i k i0 i1 _ hk => Or.inr ⟨w1, i0, by omega, w4, hk.2⟩)
  · have h8 := h8 c
    have o1 : ∀ k ∈ l, k.2.2 = 1 := by
      unfold IV at hv
      rcases hv with ⟨-, rfl, -⟩ | ⟨-, rfl, -⟩ | ⟨-, rfl⟩ | ⟨k, -⟩ | ⟨-, -, k⟩ | ⟨k, -⟩ | ⟨k, -⟩ | ⟨-, ⟨q, rfl⟩, -⟩ | ⟨-, ⟨q, rfl⟩, -⟩ | ⟨-, ⟨q, rfl⟩, -⟩ | ⟨-, ⟨q, rfl⟩, -⟩ | ⟨-, ⟨q, q', rfl⟩, -⟩ | ⟨-, ⟨q, q', rfl⟩, -⟩ | ⟨-, ⟨q, q', rfl⟩, -⟩ | ⟨-, ⟨q, rfl⟩, -⟩ | ⟨-, ⟨q, rfl⟩, -⟩ | ⟨-, ⟨q, rfl⟩, -⟩ | ⟨-, ⟨q, rfl⟩, -⟩ | ⟨-, ⟨q, q', rfl⟩⟩ | ⟨-, ⟨q, q', rfl⟩, -⟩
      · simp
      · simp
      · simp
      · omega
      · intro x hx; rw [k x hx]
      · omega
      · omega
      all_goals simp
    have : ∀ (l : List Kid) (i : Int), (∀ k ∈ l, k.2.2 = 1) → At (RPq π σ s) i l := by
      intro l
      induction l with
      | nil => intro i _; trivial
      | cons x l ih => intro i hx; exact ⟨Or.inl ⟨h8, hx x (by simp)⟩, ih (i + 1) (fun y hy => hx y (by simp [hy]))⟩
    exact this l 0 o1
section CM2
variable {N : Nat} {π : Sh} {σ τ : St} {r s A : Int}
/-- what measuring changes -/
def MF (r : Int) (σ σ' : St) : Prop := (∀ f i, f < 102 ∨ 106 < f ∨ i ≠ r → fl σ' f i = fl σ f i) ∧ ∀ a j, el σ' a j = el σ a j
theorem NP.mf {σ' : St} {l : List Kid} (h : NP π σ τ r s A l) (hn : ∀ i : Int, 0 ≤ i → i < l.length → el σ A i ≠ r) (m : MF r σ σ') : NP π σ' τ r s A l := by
  obtain ⟨p1, p2, p3, p4, p5, p6, p7, p8, p9⟩ := h
  refine ⟨p1, by rw [m.1 100 r (by omega)]; exact p2, by rw [m.1 101 r (by omega)]; exact p3, p4, p5, p6, p7, p8.mono (fun i k i0 i1 _ hk => ?_), p9.mono (fun i k i0 i1 _ hk => ?_)⟩
  · have := hn i i0 (by omega)
    unfold KQ at hk ⊢
    rw [m.2, m.1 102 _ (by omega), m.1 103 _ (by omega), m.1 104 _ (by omega), m.1 105 _ (by omega), m.1 106 _ (by omega)]
    exact hk
  · unfold RPq at hk ⊢
    rw [m.1 212 _ (by omega), m.2]
    exact hk
/-- the bounds are set -/
theorem c_bounds {g c w x : Int} (h : ob π r 5) : ∃ σ', Pt_bounds N π σ r g c w x = some σ' ∧ MF r σ σ' ∧ fl σ' 102 r = g ∧ fl σ' 103 r = c ∧ fl σ' 104 r = w ∧ fl σ' 105 r = x ∧ fl σ' 106 r = fl σ 106 r := by
  refine ⟨sf (sf (sf (sf σ 102 r g) 103 r c) 104 r w) 105 r x, by rw [Pt_bounds, grd_t h], ⟨fun f i hf => ?_, fun _ _ => rfl⟩, ?_, ?_, ?_, ?_, ?_⟩
  · rw [fl_sf, fl_sf, fl_sf, fl_sf, if_neg (by omega), if_neg (by omega), if_neg (by omega), if_neg (by omega)]
  · rw [fl_sfn _ _ _ _ (by decide), fl_sfn _ _ _ _ (by decide), fl_sfn _ _ _ _ (by decide), fl_sfs]
  · rw [fl_sfn _ _ _ _ (by decide), fl_sfn _ _ _ _ (by decide), fl_sfs]
  · rw [fl_sfn _ _ _ _ (by decide), fl_sfs]
  · rw [fl_sfs]
  · rw [fl_sfn _ _ _ _ (by decide), fl_sfn _ _ _ _ (by decide), fl_sfn _ _ _ _ (by decide), fl_sfn _ _ _ _ (by decide)]
/-- what measuring is to come to -/
def MZ (r : Int) (σ : St) (G : Int × Int × Int × Int) (x : Option St) : Prop := ∃ σ', x = some σ' ∧ MF r σ σ' ∧ okG 1000000000000000000 (fl σ' 102 r) G.1 ∧ fl σ' 103 r = G.2.1 ∧ fl σ' 104 r = G.2.2.1 ∧ fl σ' 105 r = G.2.2.2 ∧ fl σ' 106 r = fl σ 106 r
theorem MZ.of {g c w x : Int} {G : Int × Int × Int × Int} (h : ob π r 5) (h1 : okG 1000000000000000000 g G.1) (h2 : c = G.2.1) (h3 : w = G.2.2.1) (h4 : x = G.2.2.2) : MZ r σ G (Option.bind (Pt_bounds N π σ r g c w x) (fun y => some y)) := by
  obtain ⟨σ', q1, q2, q3, q4, q5, q6, q7⟩ := c_bounds (N := N) (σ := σ) (g := g) (c := c) (w := w) (x := x) h
  exact ⟨σ', by rw [q1, Option.bind_some], q2, by rw [q3]; exact h1, by rw [q4, h2], by rw [q5, h3], by rw [q6, h4], q7⟩
theorem okG.ex {M G : Int} (h : G ≤ M) : okG M G G := by
  rcases Int.lt_or_le 1000000 G with c | c
  · exact Or.inr ⟨c, c, h⟩
  · exact Or.inl ⟨c, rfl⟩
theorem okG.mul {v G w : Int} (h : okG 1000000000000 v G) (hw : 1 ≤ w ∧ w ≤ 1000000) (hG : 1 ≤ G) : okG 1000000000000000000 (w * v) (w * G) := by
  rcases h with ⟨a, rfl⟩ | ⟨a, b, c⟩
  · have := Int.mul_le_mul hw.2 a (by omega) (by omega)
    exact okG.ex (by omega)
  · have h1 := Int.mul_le_mul_of_nonneg_right hw.1 (show 0 ≤ G by omega)
    have h2 := Int.mul_le_mul_of_nonneg_right hw.1 (show 0 ≤ v by omega)
    have h3 := Int.mul_le_mul hw.2 c (by omega) (by omega)
    exact Or.inr ⟨by omega, by omega, by omega⟩
theorem okG.wk {M M' v G : Int} (h : okG M v G) (hM : M ≤ M') : okG M' v G := by
  rcases h with h | ⟨a, b, c⟩
  · exact Or.inl h
  · exact Or.inr ⟨a, b, by omega⟩
theorem wS_b : ∀ {l : List Kid}, (∀ k ∈ l, (1 ≤ k.2.1 ∧ k.2.1 ≤ 16) ∧ (1 ≤ k.2.2 ∧ k.2.2 ≤ 16)) → (l.length : Int) ≤ wS l ∧ wS l ≤ 256 * l.length
  | [], _ => ⟨Int.le_refl _, Int.le_refl _⟩
  | k :: l, h => by
    obtain ⟨a, b⟩ := wS_b (l := l) (fun x hx => h x (by simp [hx]))
    obtain ⟨⟨k1, k2⟩, k3, k4⟩ := h k (by simp)
    have u1 := Int.mul_le_mul k2 k4 (by omega) (by omega)
    have u2 := Int.mul_le_mul_of_nonneg_right k1 (show 0 ≤ k.2.2 by omega)
    rw [wS, List.length_cons]
    omega
/-- one kid -/
theorem c_one {q K a b c d : Int} (h : NP π σ τ r s A [(q, 1, 1)]) (hN : 3000 ≤ N) (hk : CKx π σ s K a b c d [(q, 1, 1)]) (hv : IV K a b c d [(q, 1, 1)]) (h8 : 8 ≤ K) : MZ r σ (bds τ K a b c d [(q, 1, 1)]) (Pt_measureOfOne N π σ r (el σ A 0)) := by
  obtain ⟨p1, p2, p3, p4, p5, p6, p7, p8, p9⟩ := h
  obtain ⟨⟨k1, ⟨k2, k3, k4, k5, k6⟩, ⟨⟨g1, g2⟩, ⟨c1, c2⟩, ⟨r1, r2⟩, ⟨w1, w2⟩, -⟩, -⟩, -⟩ := p8
  simp only at k2 k3 k4 k5 k6 g1 g2 c1 c2 r1 r2 w1 w2
  obtain ⟨x1, -, x2, x3, x4, x5, -, -⟩ := hk
  have e3 := x3 (by omega)
  have e2 := x2 (by omega) (by omega) (by omega)
  have hd : ∀ {x y z : Int}, fl σ 202 s = x → i32 x → fl σ 203 s = y → i32 y → fl σ 200 s = z → i32 z → ∀ {X : Option St}, (grd (i32 x) (bnd x (fun v4 => grd (i32 y) (bnd y (fun v7 => grd (i32 z) X)))) = X) := by
    intro x y z hx ix hy iy hz iz X
    rw [grd_t ix, bnd, grd_t iy, bnd, grd_t iz]
  unfold IV at hv
  rcases hv with ⟨k, -⟩ | ⟨k, -⟩ | ⟨k, -⟩ | ⟨k, -⟩ | ⟨k, -⟩ | ⟨k, -⟩ | ⟨k, -⟩ | ⟨hK, -, ⟨v1, v2⟩, ⟨v3, v4⟩, ⟨v5, v6⟩⟩ | ⟨hK, -, ⟨v1, v2⟩, ⟨v3, v4⟩⟩ | ⟨hK, -, ⟨v1, v2⟩, ⟨v3, v4⟩, v5⟩ | ⟨hK, -, v1, v2⟩ | ⟨-, ⟨q', r', hl⟩, -⟩ | ⟨-, ⟨q', r', hl⟩, -⟩ | ⟨-, ⟨q', r', hl⟩, -⟩ | ⟨hK, -, ⟨v1, v2⟩, v3⟩ | ⟨hK, -, ⟨v1, v2⟩, v3⟩ | ⟨hK, -, ⟨v1, v2⟩, ⟨v3, v4⟩, ⟨v5, v6⟩, ⟨v7, v8⟩, v9⟩ | ⟨hK, -, ⟨v1, v2⟩, ⟨v3, v4⟩⟩ | ⟨-, ⟨q', r', hl⟩⟩ | ⟨-, ⟨q', r', hl⟩, -⟩
  · omega
  · omega
  · omega
  · omega
  · omega
  · omega
  · omega
  · -- spread
    subst hK
    rw [show kcO 8 = 7 from rfl] at x1
    rw [if_neg (by decide), if_neg (by decide)] at e2
    rw [if_neg (by decide), if_neg (by decide)] at e3
    rw [Pt_measureOfOne, grd_t p1, p2, grd_t p4, e2, grd_t (by exact ⟨by omega, by omega⟩), bnd, e3, grd_t (by exact ⟨by omega, by omega⟩), bnd, x1, grd_t (by decide)]
    show MZ r σ _ (grd (ob π (el σ A 0) 5) (Option.bind (Pt_bounds N π σ r (b * fl σ 102 (el σ A 0)) (a * fl σ 103 (el σ A 0)) (fl σ 104 (el σ A 0)) (a * fl σ 105 (el σ A 0) + 1)) (fun r12 => some r12)))
    rw [grd_t k1, k2, k3, k4, k5]
    have m1 := Int.mul_le_mul v4 g2 (by omega) (by omega)
    exact MZ.of p1 (okG.ex (show b * gr τ q ≤ _ by omega)) rfl rfl rfl
  · -- faster
    subst hK
    rw [show kcO 9 = 9 from rfl] at x1
    rw [if_neg (by decide), if_neg (by decide)] at e2
    rw [if_neg (by decide), if_neg (by decide)] at e3
    rw [Pt_measureOfOne, grd_t p1, p2, grd_t p4, e2, grd_t (by exact ⟨by omega, by omega⟩), bnd, e3, grd_t (by exact ⟨by omega, by omega⟩), bnd, x1, grd_t (by decide)]
    show MZ r σ _ (Option.bind (Rw_ceiling N a b) (fun r23 => grd (i64 b) (if b = 1 then Pt_measureOfOne_162 N π σ r (el σ A 0) a b 0 r23 else Pt_measureOfOne_162 N π σ r (el σ A 0) a b 1 r23)))
    rw [c_ceil ⟨by omega, by omega⟩ ⟨by omega, by omega⟩ (by omega), Option.bind_some, grd_t (by exact ⟨by omega, by omega⟩)]
    have cl : ∀ {x y : Int}, 1 ≤ y → -((-x) / y) = (x + y - 1) / y := fun {x y} hy => by
      have e1 := Int.emod_add_mul_ediv (-x) y
      have e2 := Int.emod_nonneg (-x) (show y ≠ 0 by omega)
      have e3 := Int.emod_lt_of_pos (-x) (show 0 < y by omega)
      refine Int.le_antisymm ?_ ?_
      · rw [Int.le_ediv_iff_mul_le (by omega), Int.neg_mul, Int.mul_comm]
        omega
      · have : (x + y - 1) / y < -((-x) / y) + 1 := by
          rw [Int.ediv_lt_iff_lt_mul (by omega), Int.add_mul, Int.neg_mul, Int.mul_comm]
          omega
        omega
    have m1 := Int.mul_le_mul v2 g2 (by omega) (by omega)
    have m2 : 0 ≤ rc τ q * b := Int.mul_nonneg (by omega) (by omega)
    have m3 : rc τ q * b ≤ 64 * 64 := Int.mul_le_mul r2 v4 (by omega) (by omega)
    have tail : ∀ z : Int, (z = 0 ∨ z = 1) → z = (if b = 1 then 0 else 1) → MZ r σ (bds τ 9 a b c d [(q, 1, 1)]) (Pt_measureOfOne_162 N π σ r (el σ A 0) a b z (-((-a) / b))) := by
      intro z hz hzb
      rw [Pt_measureOfOne_162, grd_t (by rcases hz with rfl | rfl <;> decide), bnd, grd_t k1, k4, c_ceil ⟨by omega, by omega⟩ ⟨by omega, by omega⟩ (by omega), Option.bind_some, k2, k3, k5]
      obtain ⟨σ', y1, y2, y3, y4, y5, y6, y7⟩ := c_bounds (N := N) (π := π) (σ := σ) (r := r) (g := a * gr τ q) (c := (-((-a) / b) + z) * cw τ q) (w := -((-(rc τ q * b)) / a)) (x := (-((-a) / b) + z) * wk τ q + 1) p1
      rw [y1, Option.bind_some, grd_t p1]
      have et : -((-a) / b) + z = tmF a b := by unfold tmF; rw [cl v3, hzb]
      refine ⟨σ', rfl, y2, ?_, ?_, ?_, ?_, y7⟩
      · rw [y3]; exact okG.ex (show a * gr τ q ≤ _ by omega)
      · rw [y4, et]; rfl
      · rw [y5, cl v1]; rfl
      · rw [y6, et]; rfl
    by_cases c1 : b = 1
    · rw [if_pos c1]
      exact tail 0 (Or.inl rfl) (by rw [if_pos c1])
    · rw [if_neg c1]
      exact tail 1 (Or.inr rfl) (by rw [if_neg c1])
  · -- ahead, behind
    have hz : fl σ 200 s = 10 := by rcases hK with rfl | rfl <;> exact x1
    have e2' : fl σ 202 s = a ∨ fl σ 202 s = -a := by
      rcases hK with rfl | rfl
      · left; rw [if_neg (by decide), if_neg (by decide)] at e2; exact e2
      · right; rw [if_pos rfl] at e2; exact e2
    have e3' : fl σ 203 s = b := by rcases hK with rfl | rfl <;> (rw [if_neg (by decide), if_neg (by decide)] at e3; exact e3)
    have hb : bds τ K a b c d [(q, 1, 1)] = (lcI (gr τ q) b, (if b = 1 then 1 else 2) * cw τ q, rc τ q, (if b = 1 then 1 else 2) * wk τ q + 1) := by rcases hK with rfl | rfl <;> rfl
    rw [hb, Pt_measureOfOne, grd_t p1, p2, grd_t p4, grd_t (by rcases e2' with e | e <;> rw [e] <;> exact ⟨by omega, by omega⟩), bnd, e3', grd_t (by exact ⟨by omega, by omega⟩), bnd, hz, grd_t (by decide)]
    show MZ r σ _ (grd (i64 b) (if b = 1 then Pt_measureOfOne_220 N π σ r (el σ A 0) b 1 else Pt_measureOfOne_220 N π σ r (el σ A 0) b 2))
    rw [grd_t (by exact ⟨by omega, by omega⟩)]
    obtain ⟨-, -, -, -, -, -, u7⟩ := lcI_b g1 v3
    have m1 : gr τ q * b ≤ 1000000 * 64 := Int.mul_le_mul g2 v4 (by omega) (by omega)
    have tail : ∀ z : Int, z = (if b = 1 then 1 else 2) → MZ r σ (lcI (gr τ q) b, (if b = 1 then 1 else 2) * cw τ q, rc τ q, (if b = 1 then 1 else 2) * wk τ q + 1) (Pt_measureOfOne_220 N π σ r (el σ A 0) b z) := by
      intro z hz
      rw [Pt_measureOfOne_220, grd_t k1, k2, k3, k4, k5, c_lcm (by omega) ⟨g1, by omega⟩ ⟨v3, by omega⟩, Option.bind_some]
      obtain ⟨σ', y1, y2, y3, y4, y5, y6, y7⟩ := c_bounds (N := N) (π := π) (σ := σ) (r := r) (g := lcI (gr τ q) b) (c := z * cw τ q) (w := rc τ q) (x := z * wk τ q + 1) p1
      rw [y1, Option.bind_some, grd_t p1]
      refine ⟨σ', rfl, y2, ?_, ?_, ?_, ?_, y7⟩
      · rw [y3]; exact okG.ex (by omega)
      · rw [y4, hz]
      · rw [y5]
      · rw [y6, hz]
    by_cases c1 : b = 1
    · rw [if_pos c1 (α := Option St)]
      exact tail 1 (by rw [if_pos c1])
    · rw [if_neg c1 (α := Option St)]
      exact tail 2 (by rw [if_neg c1])
  · -- backwards
    subst hK
    rw [show kcO 12 = 11 from rfl] at x1
    rw [if_neg (by decide), if_neg (by decide)] at e2
    rw [if_neg (by decide), if_neg (by decide)] at e3
    rw [Pt_measureOfOne, grd_t p1, p2, grd_t p4, e2, grd_t (by exact ⟨by omega, by omega⟩), bnd, e3, grd_t (by exact ⟨by omega, by omega⟩), bnd, x1, grd_t (by decide)]
    show MZ r σ _ (grd (ob π (el σ A 0) 5) (Option.bind (Pt_bounds N π σ r (fl σ 102 (el σ A 0)) (fl σ 103 (el σ A 0)) 1 (fl σ 105 (el σ A 0) + 1)) (fun r12 => some r12)))
    rw [grd_t k1, k2, k3, k5]
    exact MZ.of p1 (okG.ex (show gr τ q ≤ _ by omega)) rfl rfl rfl
  · simp at hl
  · simp at hl
  · simp at hl
  · -- turned, plied
    rcases hK with rfl | rfl
    · rw [show kcO 17 = 14 from rfl] at x1
      rw [if_neg (by decide), if_neg (by decide)] at e2
      rw [if_neg (by decide), if_neg (by decide)] at e3
      rw [Pt_measureOfOne, grd_t p1, p2, grd_t p4, e2, grd_t (by exact ⟨by omega, by omega⟩), bnd, e3, grd_t (by exact ⟨by omega, by omega⟩), bnd, x1, grd_t (by decide)]
      show MZ r σ _ (grd (ob π (el σ A 0) 5) (Option.bind (Pt_lcm N (fl σ 102 (el σ A 0)) a) (fun r50 => Option.bind (Pt_bounds N π σ r r50 (2 * fl σ 103 (el σ A 0)) (fl σ 104 (el σ A 0)) (2 * fl σ 105 (el σ A 0) + 1)) (fun r12 => some r12))))
      obtain ⟨-, -, -, -, -, -, u7⟩ := lcI_b g1 v1
      have m1 : gr τ q * a ≤ 1000000 * 64 := Int.mul_le_mul g2 v2 (by omega) (by omega)
      rw [grd_t k1, k2, k3, k4, k5, c_lcm (by omega) ⟨g1, by omega⟩ ⟨v1, by omega⟩, Option.bind_some]
      exact MZ.of p1 (okG.ex (show lcI (gr τ q) a ≤ _ by omega)) rfl rfl rfl
    · rw [show kcO 18 = 15 from rfl] at x1
      rw [if_neg (by decide), if_neg (by decide)] at e2
      rw [if_neg (by decide), if_neg (by decide)] at e3
      rw [Pt_measureOfOne, grd_t p1, p2, grd_t p4, e2, grd_t (by exact ⟨by omega, by omega⟩), bnd, e3, grd_t (by exact ⟨by omega, by omega⟩), bnd, x1, grd_t (by decide)]
      show MZ r σ _ (grd (ob π (el σ A 0) 5) (bnd (fl σ 104 (el σ A 0) + 1) (fun v58 => Option.bind (Pt_bounds N π σ r (a * fl σ 102 (el σ A 0)) (a * fl σ 103 (el σ A 0) * v58) (fl σ 104 (el σ A 0)) (v58 * (fl σ 105 (el σ A 0) + a * fl σ 103 (el σ A 0)) + 1)) (fun r12 => some r12))))
      have m1 : a * gr τ q ≤ 64 * 1000000 := Int.mul_le_mul v2 g2 (by omega) (by omega)
      rw [grd_t k1, bnd, k2, k3, k4, k5]
      exact MZ.of p1 (okG.ex (show a * gr τ q ≤ _ by omega)) rfl rfl rfl
  · -- rotated
    subst hK
    rw [show kcO 19 = 18 from rfl] at x1
    rw [if_neg (by decide), if_neg (by decide)] at e2
    rw [if_neg (by decide), if_neg (by decide)] at e3
    rw [Pt_measureOfOne, grd_t p1, p2, grd_t p4, e2, grd_t (by exact ⟨by omega, by omega⟩), bnd, e3, grd_t (by exact ⟨by omega, by omega⟩), bnd, x1, grd_t (by decide)]
    show MZ r σ _ (grd (ob π (el σ A 0) 5) (Option.bind (Pt_bounds N π σ r (fl σ 102 (el σ A 0)) (fl σ 103 (el σ A 0)) (fl σ 104 (el σ A 0)) (fl σ 105 (el σ A 0) + fl σ 103 (el σ A 0) + 1)) (fun r12 => some r12)))
    rw [grd_t k1, k2, k3, k4, k5]
    exact MZ.of p1 (okG.ex (show gr τ q ≤ _ by omega)) rfl rfl rfl
  · -- squeezed
    subst hK
    rw [show kcO 20 = 24 from rfl] at x1
    rw [if_neg (by decide), if_neg (by decide)] at e2
    rw [if_neg (by decide), if_neg (by decide)] at e3
    have e4 := x4 (by omega)
    have e5 := x5 (by omega)
    have D0 : 0 < b * d := Int.mul_pos (by omega) (by omega)
    have D1 : b * d ≤ 64 * 64 := Int.mul_le_mul v4 v8 (by omega) (by omega)
    have U1 : c * b ≤ 64 * 64 := Int.mul_le_mul (by omega) v4 (by omega) (by omega)
    have U2 : 0 ≤ a * d := Int.mul_nonneg (by omega) (by omega)
    have g0 : 0 < gC (c * b - a * d) (b * d) := gC_pos D0
    have gle : gC (c * b - a * d) (b * d) ≤ b * d := gC_le D0
    have dD : gC (c * b - a * d) (b * d) ∣ b * d := Int.gcd_dvd_right _ _
    have d1 := dv_pos dD (by omega) (by omega)
    have d2 : b * d / gC (c * b - a * d) (b * d) ≤ b * d := Int.ediv_le_self _ (by omega)
    rw [Pt_measureOfOne, grd_t p1, p2, grd_t p4, e2, grd_t (by exact ⟨by omega, by omega⟩), bnd, e3, grd_t (by exact ⟨by omega, by omega⟩), bnd, x1, grd_t (by decide)]
    show MZ r σ _ (Option.bind (Pt_spanLower N π σ r) (fun r113 => grd (ob π (el σ A 0) 5) (Option.bind (Pt_lcm N b (r113.2 * fl r113.1 102 (el σ A 0))) (fun r118 => Option.bind (Pt_bounds N π r113.1 r r118 (fl r113.1 103 (el σ A 0)) (fl r113.1 104 (el σ A 0)) (fl r113.1 105 (el σ A 0) + 1)) (fun r12 => some r12)))))
    have sl : Pt_spanLower N π σ r = some (σ, b * d / gC (c * b - a * d) (b * d)) := by
      rw [Pt_spanLower, grd_t p1, p2, grd_t p4, e4, grd_t (by exact ⟨by omega, by omega⟩), e3, grd_t (by exact ⟨by omega, by omega⟩), e2, grd_t (by exact ⟨by omega, by omega⟩), e5, grd_t (by exact ⟨by omega, by omega⟩), bnd, bnd, c_gcd (by omega) (by omega) (by omega) (by omega) (by omega), Option.bind_some, grd_t (by exact ⟨by omega, by omega⟩), grd_t (by exact ⟨by omega, by omega⟩), grd_t (by omega), td_pos (by omega)]
    have m0 : 1 ≤ b * d / gC (c * b - a * d) (b * d) * gr τ q := by
      have := Int.mul_le_mul d1 g1 (by omega) (by omega)
      omega
    have m1 : b * d / gC (c * b - a * d) (b * d) * gr τ q ≤ 4096 * 1000000 := Int.mul_le_mul (by omega) g2 (by omega) (by omega)
    obtain ⟨-, -, -, -, -, -, u7⟩ := lcI_b v3 m0
    have m2 : b * (b * d / gC (c * b - a * d) (b * d) * gr τ q) ≤ 64 * 4096000000 := Int.mul_le_mul v4 (by omega) (by omega) (by omega)
    rw [sl, Option.bind_some, grd_t k1]
    simp only
    rw [k2, k3, k4, k5, c_lcm (by omega) ⟨v3, by omega⟩ ⟨m0, by omega⟩, Option.bind_some]
    exact MZ.of p1 (okG.ex (show lcI b (b * d / gC (c * b - a * d) (b * d) * gr τ q) ≤ _ by omega)) rfl rfl rfl
  · -- dropped, kept
    have hz : fl σ 200 s = 22 ∨ fl σ 200 s = 23 := by rcases hK with rfl | rfl
                                                      · exact Or.inl x1
                                                      · exact Or.inr x1
    have e2' : fl σ 202 s = a := by rcases hK with rfl | rfl <;> (rw [if_neg (by decide), if_neg (by decide)] at e2; exact e2)
    have e3' : fl σ 203 s = 1000003 * b := by rcases hK with rfl | rfl <;> (rw [if_neg (by decide), if_pos (by decide)] at e3; exact e3)
    have hb : bds τ K a b c d [(q, 1, 1)] = (gr τ q, cw τ q, rc τ q, wk τ q + 1) := by rcases hK with rfl | rfl <;> rfl
    have fin : MZ r σ (gr τ q, cw τ q, rc τ q, wk τ q + 1) (grd (ob π (el σ A 0) 5) (Option.bind (Pt_bounds N π σ r (fl σ 102 (el σ A 0)) (fl σ 103 (el σ A 0)) (fl σ 104 (el σ A 0)) (fl σ 105 (el σ A 0) + 1)) (fun r12 => some r12))) := by
      rw [grd_t k1, k2, k3, k4, k5]
      exact MZ.of p1 (okG.ex (show gr τ q ≤ _ by omega)) rfl rfl rfl
    rw [hb, Pt_measureOfOne, grd_t p1, p2, grd_t p4, e2', grd_t (by exact ⟨by omega, by omega⟩), bnd, e3', grd_t (by exact ⟨by omega, by omega⟩), bnd]
    rcases hz with hz | hz <;> (rw [hz, grd_t (by decide)]; exact fin)
  · simp at hl
  · simp at hl
end CM2
