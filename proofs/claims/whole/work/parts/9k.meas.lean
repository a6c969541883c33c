/-! bounds of a pattern: what they are; the class measures them -/
def lcI (a b : Int) : Int := a / gC a b * b
def lcK (τ : St) : Int → List Kid → Int
  | a, [] => a
  | a, k :: l => lcK τ (lcI a (gr τ k.1)) l
def wkS (τ : St) : List Kid → Int
  | [] => 0
  | k :: l => k.2.2 * wk τ k.1 + wkS τ l
def mxK (f : Int → Int) : Int → List Kid → Int
  | a, [] => a
  | a, k :: l => mxK f (max a (f k.1)) l
abbrev q0 (l : List Kid) : Int := (l.headD (0, 0, 0)).1
abbrev q1 (l : List Kid) : Int := ((l.drop 1).headD (0, 0, 0)).1
def tmF (a b : Int) : Int := (a + b - 1) / b + (if b = 1 then 0 else 1)
def meB (τ : St) (m o : Int) : Int × Int × Int × Int := (gr τ m, cw τ m, rc τ m, wk τ m + cw τ m * (rc τ o + 1) * wk τ o + 1)
/-- grain, crowd, reach, work -/
def bds (τ : St) (K a b c d : Int) (l : List Kid) : Int × Int × Int × Int :=
  if K = 1 ∨ K = 2 then (1, 1, 1, 1)
  else if K = 3 then (1, 0, 1, 1)
  else if K = 4 then (wS l * lcK τ 1 l, crS τ l, mxK (rc τ) 0 l, wkS τ l + 1)
  else if K = 5 ∨ K = 15 ∨ K = 16 then (lcK τ 1 l, crS τ l, mxK (rc τ) 0 l, wkS τ l + 1)
  else if K = 6 ∨ K = 13 ∨ K = 14 then (lcK τ 1 l, mxK (cw τ) 0 l, mxK (rc τ) 0 l, mxK (wk τ) 0 l + 1)
  else if K = 7 then (a * lcK τ 1 l, a * mxK (cw τ) 0 l, mxK (rc τ) 0 l, a * mxK (wk τ) 0 l + 1)
  else if K = 8 then (b * gr τ (q0 l), a * cw τ (q0 l), rc τ (q0 l), a * wk τ (q0 l) + 1)
  else if K = 9 then (a * gr τ (q0 l), tmF a b * cw τ (q0 l), (rc τ (q0 l) * b + a - 1) / a, tmF a b * wk τ (q0 l) + 1)
  else if K = 10 ∨ K = 11 then (lcI (gr τ (q0 l)) b, (if b = 1 then 1 else 2) * cw τ (q0 l), rc τ (q0 l), (if b = 1 then 1 else 2) * wk τ (q0 l) + 1)
  else if K = 12 then (gr τ (q0 l), cw τ (q0 l), 1, wk τ (q0 l) + 1)
  else if K = 17 then (lcI (gr τ (q0 l)) a, 2 * cw τ (q0 l), rc τ (q0 l), 2 * wk τ (q0 l) + 1)
  else if K = 18 then (a * gr τ (q0 l), a * cw τ (q0 l) * (rc τ (q0 l) + 1), rc τ (q0 l), (rc τ (q0 l) + 1) * (wk τ (q0 l) + a * cw τ (q0 l)) + 1)
  else if K = 19 then (gr τ (q0 l), cw τ (q0 l), rc τ (q0 l), wk τ (q0 l) + cw τ (q0 l) + 1)
  else if K = 20 then (lcI b (b * d / gC (c * b - a * d) (b * d) * gr τ (q0 l)), cw τ (q0 l), rc τ (q0 l), wk τ (q0 l) + 1)
  else if K = 21 ∨ K = 22 then (gr τ (q0 l), cw τ (q0 l), rc τ (q0 l), wk τ (q0 l) + 1)
  else if K = 24 then meB τ (q1 l) (q0 l) else meB τ (q0 l) (q1 l)
def dpt (τ : St) (l : List Kid) : Int := mxK (fun q => el τ 59 q) 0 l + 1
/-- a bound that may be more than is allowed -/
def okG (M v G : Int) : Prop := (G ≤ 1000000 ∧ v = G) ∨ (1000000 < G ∧ 1000000 < v ∧ v ≤ M)
/-- kids as the maker has them -/
def KOK (τ : St) (k : Kid) : Prop := rng τ k.1 ∧ (1 ≤ el τ 59 k.1 ∧ el τ 59 k.1 ≤ 60) ∧ (1 ≤ k.2.1 ∧ k.2.1 ≤ 16) ∧ (1 ≤ k.2.2 ∧ k.2.2 ≤ 16)
def wgt (l : List Kid) : Prop := l ≠ [] ∧ l.length ≤ 2000
def IV (K a b c d : Int) (l : List Kid) : Prop :=
  (K = 1 ∧ l = [] ∧ VO (a, b, 0, 1)) ∨ (K = 2 ∧ l = [] ∧ i32 a) ∨ (K = 3 ∧ l = []) ∨ (K = 4 ∧ wgt l) ∨ (K = 5 ∧ wgt l ∧ ∀ k ∈ l, k.2 = (1, 1)) ∨ (K = 6 ∧ wgt l) ∨ (K = 7 ∧ wgt l ∧ 1 ≤ a ∧ a ≤ 32) ∨
  (K = 8 ∧ (∃ q, l = [(q, 1, 1)]) ∧ (0 ≤ a ∧ a ≤ b) ∧ (1 ≤ b ∧ b ≤ 32) ∧ (0 ≤ c ∧ c ≤ 31)) ∨
  (K = 9 ∧ (∃ q, l = [(q, 1, 1)]) ∧ (1 ≤ a ∧ a ≤ 64) ∧ (1 ≤ b ∧ b ≤ 64)) ∨
  ((K = 10 ∨ K = 11) ∧ (∃ q, l = [(q, 1, 1)]) ∧ (0 ≤ a ∧ a ≤ 64) ∧ (1 ≤ b ∧ b ≤ 64) ∧ (b = 1 ∨ a % b ≠ 0)) ∨
  (K = 12 ∧ (∃ q, l = [(q, 1, 1)]) ∧ a = 0 ∧ b = 0) ∨
  ((K = 13 ∨ K = 14) ∧ (∃ q r, l = [(q, 1, 1), (r, 1, 1)]) ∧ (1 ≤ a ∧ a ≤ 64) ∧ (0 ≤ b ∧ b ≤ 64)) ∨
  (K = 15 ∧ (∃ q r, l = [(q, 1, 1), (r, 1, 1)]) ∧ (1 ≤ a ∧ a ≤ 64)) ∨
  (K = 16 ∧ (∃ q r, l = [(q, 1, 1), (r, 1, 1)]) ∧ (0 ≤ a ∧ a ≤ 64) ∧ (1 ≤ b ∧ b ≤ 64) ∧ (0 ≤ c ∧ c ≤ 64) ∧ (1 ≤ d ∧ d ≤ 64)) ∨
  ((K = 17 ∨ K = 18) ∧ (∃ q, l = [(q, 1, 1)]) ∧ (1 ≤ a ∧ a ≤ 64) ∧ b = 0) ∨
  (K = 19 ∧ (∃ q, l = [(q, 1, 1)]) ∧ (0 ≤ a ∧ a ≤ 1000) ∧ b = 0) ∨
  (K = 20 ∧ (∃ q, l = [(q, 1, 1)]) ∧ (0 ≤ a ∧ a ≤ b) ∧ (1 ≤ b ∧ b ≤ 64) ∧ (0 ≤ c ∧ c ≤ d) ∧ (1 ≤ d ∧ d ≤ 64) ∧ 0 < c * b - a * d) ∨
  ((K = 21 ∨ K = 22) ∧ (∃ q, l = [(q, 1, 1)]) ∧ (0 ≤ a ∧ a ≤ 1000) ∧ (0 ≤ b ∧ b ≤ 2100)) ∨
  ((K = 23 ∨ K = 24) ∧ (∃ q r, l = [(q, 1, 1), (r, 1, 1)])) ∨
  (K = 25 ∧ (∃ q r, l = [(q, 1, 1), (r, 1, 1)]) ∧ i32 a)
theorem lcI_1 {g : Int} (h : 1 ≤ g) : lcI 1 g = g := by
  have : gC 1 g = 1 := by unfold gC; rw [Int.one_gcd]; rfl
  unfold lcI
  rw [this]
  omega
theorem lcI_b {a b : Int} (ha : 1 ≤ a) (hb : 1 ≤ b) : 1 ≤ a / gC a b ∧ a / gC a b ≤ a ∧ a ∣ lcI a b ∧ b ∣ lcI a b ∧ a ≤ lcI a b ∧ b ≤ lcI a b ∧ lcI a b ≤ a * b := by
  have g0 : 0 < gC a b := gC_pos (by omega)
  have gd : gC a b ∣ a := Int.gcd_dvd_left _ _
  have ge : gC a b ∣ b := Int.gcd_dvd_right _ _
  have h1 := dv_pos gd (by omega) ha
  have h2 : a / gC a b ≤ a := Int.ediv_le_self _ (by omega)
  have db : b ∣ lcI a b := ⟨a / gC a b, by unfold lcI; rw [Int.mul_comm]⟩
  have da : a ∣ lcI a b := by
    refine ⟨b / gC a b, ?_⟩
    unfold lcI
    have e1 := dv_mul gd
    have e2 := dv_mul ge
    calc a / gC a b * b = a / gC a b * (b / gC a b * gC a b) := by rw [e2]
      _ = a / gC a b * gC a b * (b / gC a b) := by rw [Int.mul_assoc, Int.mul_comm (b / gC a b)]
      _ = a * (b / gC a b) := by rw [e1]
  have pos : 1 ≤ lcI a b := by
    have := Int.mul_le_mul_of_nonneg_right h1 (show 0 ≤ b by omega)
    unfold lcI
    omega
  refine ⟨h1, h2, da, db, Int.le_of_dvd (by omega) da, Int.le_of_dvd (by omega) db, ?_⟩
  exact Int.mul_le_mul_of_nonneg_right h2 (by omega)
theorem lcK_dvd {τ : St} : ∀ (l : List Kid) (a : Int), 1 ≤ a → (∀ k ∈ l, 1 ≤ gr τ k.1) → a ∣ lcK τ a l ∧ a ≤ lcK τ a l ∧ ∀ k ∈ l, gr τ k.1 ∣ lcK τ a l
  | [], a, _, _ => ⟨Int.dvd_refl _, Int.le_refl _, fun k h => by cases h⟩
  | k :: l, a, ha, h => by
    obtain ⟨-, -, b1, b2, b3, -, -⟩ := lcI_b ha (h k (by simp))
    obtain ⟨c1, c2, c3⟩ := lcK_dvd l (lcI a (gr τ k.1)) (by omega) (fun x hx => h x (by simp [hx]))
    rw [lcK]
    refine ⟨Int.dvd_trans b1 c1, by omega, fun x hx => ?_⟩
    rcases List.mem_cons.1 hx with rfl | hx
    · exact Int.dvd_trans b2 c1
    · exact c3 x hx
theorem mxK_ge {f : Int → Int} : ∀ (l : List Kid) (a : Int), a ≤ mxK f a l ∧ ∀ k ∈ l, f k.1 ≤ mxK f a l
  | [], a => ⟨Int.le_refl _, fun k h => by cases h⟩
  | k :: l, a => by
    obtain ⟨c1, c2⟩ := mxK_ge (f := f) l (max a (f k.1))
    rw [mxK]
    refine ⟨by omega, fun x hx => ?_⟩
    rcases List.mem_cons.1 hx with rfl | hx
    · omega
    · exact c2 x hx
theorem mxK_le {f : Int → Int} {M : Int} : ∀ (l : List Kid) (a : Int), a ≤ M → (∀ k ∈ l, f k.1 ≤ M) → mxK f a l ≤ M
  | [], a, h, _ => h
  | k :: l, a, h, hk => by
    rw [mxK]
    have := hk k (by simp)
    exact mxK_le l _ (by omega) (fun x hx => hk x (by simp [hx]))
/-- a kid of the class's pattern -/
def KQ (π : Sh) (σ τ : St) (A i : Int) (k : Kid) : Prop := ob π (el σ A i) 5 ∧ (fl σ 102 (el σ A i) = gr τ k.1 ∧ fl σ 103 (el σ A i) = cw τ k.1 ∧ fl σ 104 (el σ A i) = rc τ k.1 ∧ fl σ 105 (el σ A i) = wk τ k.1 ∧ fl σ 106 (el σ A i) = el τ 59 k.1) ∧ KOK τ k
def RPq (π : Sh) (σ : St) (s i : Int) (k : Kid) : Prop := (fl σ 212 s < 0 ∧ k.2.2 = 1) ∨ (ob π (fl σ 212 s) 22 ∧ 0 ≤ i ∧ i < ln π (fl σ 212 s) ∧ ln π (fl σ 212 s) < 100000 ∧ el σ (fl σ 212 s) i = k.2.2)
/-- a new pattern of the class: its step, its kids -/
def NP (π : Sh) (σ τ : St) (r s A : Int) (l : List Kid) : Prop := ob π r 5 ∧ fl σ 100 r = s ∧ fl σ 101 r = A ∧ ob π s 10 ∧ ob π A 26 ∧ ln π A = l.length ∧ l.length ≤ 2000 ∧ At (KQ π σ τ A) 0 l ∧ At (RPq π σ s) 0 l
section ME
variable {N : Nat} {π : Sh} {σ τ : St} {r s A : Int}
theorem c_lcm {x y : Int} (hN : 200 ≤ N) (hx : 1 ≤ x ∧ x ≤ 1000000000000) (hy : 1 ≤ y ∧ y ≤ 1000000000000) : Pt_lcm N x y = some (lcI x y) := by
  have g0 : 0 < gC x y := gC_pos (by omega)
  have g1 : gC x y ≤ y := gC_le (by omega)
  rw [Pt_lcm, c_gcd hN (by omega) (by omega) (by omega) (by omega), Option.bind_some, grd_t (by exact ⟨by omega, by omega⟩), grd_t (by exact ⟨by omega, by omega⟩), grd_t (by omega), td_pos (by omega)]
  rfl
theorem c_lcmAll_lp {l0 : List Kid} (h : NP π σ τ r s A l0) (hN : 3000 ≤ N) : ∀ (l : List Kid) (n : Nat) (i a : Int), l.length < n → At (KQ π σ τ A) i l → 0 ≤ i → i + l.length = l0.length → 1 ≤ a → a ≤ 1000000000000 → ∃ v, Pt_lcmOfAll_4 N π n σ r a i = some (σ, v) ∧ okG 1000000000000 v (lcK τ a l)
  | [], n + 1, i, a, _, _, i0, h1, a0, a1 => by
    obtain ⟨p1, p2, p3, p4, p5, p6, p7, -⟩ := h
    simp only [List.length_nil] at h1
    refine ⟨a, ?_, ?_⟩
    · rw [Pt_lcmOfAll_4, grd_t p1, p3, grd_t p5, grd_t (by omega), grd_t (by exact ⟨by omega, by omega⟩), grd_t (by exact ⟨by omega, by omega⟩), if_neg (by omega)]
    · rw [lcK]
      rcases Int.lt_or_le 1000000 a with c | c
      · exact Or.inr ⟨c, c, a1⟩
      · exact Or.inl ⟨c, rfl⟩
  | k :: l, n + 1, i, a, hn, hA, i0, h1, a0, a1 => by
    obtain ⟨p1, p2, p3, p4, p5, p6, p7, -⟩ := id h
    obtain ⟨⟨k1, ⟨k2, k3, k4, k5, k6⟩, k7⟩, kl'⟩ := hA
    obtain ⟨⟨⟨g1, g2⟩, -⟩, -⟩ := k7
    simp only [List.length_cons] at h1 hn
    have gk : ∀ x ∈ k :: l, 1 ≤ gr τ x.1 := fun x hx => by
      rcases List.mem_cons.1 hx with rfl | hx
      · exact g1
      · exact At.all (P := fun x => 1 ≤ gr τ x.1) (fun _ _ hq => hq.2.2.1.1.1) kl' x hx
    by_cases c : 1000000 < a
    · refine ⟨a, ?_, ?_⟩
      · rw [Pt_lcmOfAll_4, grd_t p1, p3, grd_t p5, grd_t (by omega), grd_t (by exact ⟨by omega, by omega⟩), grd_t (by exact ⟨by omega, by omega⟩), if_pos (by omega), grd_t (by exact ⟨by omega, by omega⟩), if_pos c]
      · have := (lcK_dvd (τ := τ) (k :: l) a a0 gk).2.1
        exact Or.inr ⟨by omega, c, a1⟩
    · obtain ⟨-, -, -, -, b3, b4, b5⟩ := lcI_b a0 g1
      have b6 : a * gr τ k.1 ≤ 1000000 * 1000000 := Int.mul_le_mul (by omega) g2 (by omega) (by omega)
      obtain ⟨v, q1, q2⟩ := c_lcmAll_lp h hN l n (i + 1) (lcI a (gr τ k.1)) (by omega) kl' (by omega) (by omega) (by omega) (by omega)
      refine ⟨v, ?_, q2⟩
      rw [Pt_lcmOfAll_4, grd_t p1, p3, grd_t p5, grd_t (by omega), grd_t (by exact ⟨by omega, by omega⟩), grd_t (by exact ⟨by omega, by omega⟩), if_pos (by omega), grd_t (by exact ⟨by omega, by omega⟩), if_neg c, grd_t (by exact ⟨i0, by omega, by omega⟩), grd_t k1, k2, c_lcm (by omega) ⟨a0, a1⟩ ⟨g1, by omega⟩, Option.bind_some]
      exact q1
theorem c_lcmAll {l : List Kid} (h : NP π σ τ r s A l) (hN : 3000 ≤ N) : ∃ v, Pt_lcmOfAll N π σ r = some (σ, v) ∧ okG 1000000000000 v (lcK τ 1 l) := c_lcmAll_lp h hN l N 0 1 (by have := h.2.2.2.2.2.2.1; omega) h.2.2.2.2.2.2.2.1 (Int.le_refl _) (by omega) (by omega) (by omega)
theorem c_rep {i : Int} {k : Kid} (h1 : ob π r 5) (h2 : fl σ 100 r = s) (h3 : ob π s 10) (hi : i32 i) (hk : RPq π σ s i k) (hb : i32 k.2.2) : Pt_repeatsOf N π σ r i = some (σ, k.2.2) := by
  rcases hk with ⟨a, b⟩ | ⟨a, b, c, d, e⟩
  · rw [Pt_repeatsOf, grd_t h1, h2, grd_t h3, if_pos a, Pt_repeatsOf_22, b]
  · have a0 := a.1
    rw [Pt_repeatsOf, grd_t h1, h2, grd_t h3, if_neg (by omega), grd_t a, grd_t (by omega), grd_t hi, grd_t (by exact ⟨by omega, by omega⟩), if_pos c, grd_t (by exact ⟨b, c, by omega⟩), e, grd_t hb]
theorem c_crAll_lp {l0 : List Kid} (h : NP π σ τ r s A l0) (hN : 3000 ≤ N) : ∀ (l : List Kid) (n : Nat) (i a : Int), l.length < n → At (KQ π σ τ A) i l → At (RPq π σ s) i l → 0 ≤ i → i + l.length = l0.length → Pt_crowdOfAll_4 N π n σ r a i = some (σ, a + crS τ l) ∧ Pt_workOfAll_4 N π n σ r a i = some (σ, a + wkS τ l)
  | [], n + 1, i, a, _, _, _, i0, h1 => by
    obtain ⟨p1, p2, p3, p4, p5, p6, p7, -⟩ := h
    simp only [List.length_nil] at h1
    constructor
    · rw [Pt_crowdOfAll_4, grd_t p1, p3, grd_t p5, grd_t (by omega), grd_t (by exact ⟨by omega, by omega⟩), grd_t (by exact ⟨by omega, by omega⟩), if_neg (by omega), crS, Int.add_zero]
    · rw [Pt_workOfAll_4, grd_t p1, p3, grd_t p5, grd_t (by omega), grd_t (by exact ⟨by omega, by omega⟩), grd_t (by exact ⟨by omega, by omega⟩), if_neg (by omega), wkS, Int.add_zero]
  | k :: l, n + 1, i, a, hn, hA, hR, i0, h1 => by
    obtain ⟨p1, p2, p3, p4, p5, p6, p7, -⟩ := id h
    obtain ⟨⟨k1, ⟨k2, k3, k4, k5, k6⟩, k7⟩, kl'⟩ := hA
    obtain ⟨r1, rl⟩ := hR
    obtain ⟨-, -, -, ⟨o1, o2⟩⟩ := k7
    simp only [List.length_cons] at h1 hn
    have rp := c_rep (N := N) (i := i) p1 p2 p4 ⟨by omega, by omega⟩ r1 ⟨by omega, by omega⟩
    constructor
    · rw [Pt_crowdOfAll_4, grd_t p1, p3, grd_t p5, grd_t (by omega), grd_t (by exact ⟨by omega, by omega⟩), grd_t (by exact ⟨by omega, by omega⟩), if_pos (by omega), rp, Option.bind_some]
      simp only
      rw [p3, grd_t p5, grd_t (by exact ⟨i0, by omega, by omega⟩), grd_t k1, k3, bnd, (c_crAll_lp h hN l n (i + 1) _ (by omega) kl' rl (by omega) (by omega)).1, crS, Int.add_assoc]
    · rw [Pt_workOfAll_4, grd_t p1, p3, grd_t p5, grd_t (by omega), grd_t (by exact ⟨by omega, by omega⟩), grd_t (by exact ⟨by omega, by omega⟩), if_pos (by omega), rp, Option.bind_some]
      simp only
      rw [p3, grd_t p5, grd_t (by exact ⟨i0, by omega, by omega⟩), grd_t k1, k5, bnd, (c_crAll_lp h hN l n (i + 1) _ (by omega) kl' rl (by omega) (by omega)).2, wkS, Int.add_assoc]
theorem c_crAll {l : List Kid} (h : NP π σ τ r s A l) (hN : 3000 ≤ N) : Pt_crowdOfAll N π σ r = some (σ, crS τ l) ∧ Pt_workOfAll N π σ r = some (σ, wkS τ l) := by
  have := c_crAll_lp h hN l N 0 0 (by have := h.2.2.2.2.2.2.1; omega) h.2.2.2.2.2.2.2.1 h.2.2.2.2.2.2.2.2 (Int.le_refl _) (by omega)
  rw [Int.zero_add, Int.zero_add] at this
  exact this
theorem c_mxAll_lp {l0 : List Kid} (h : NP π σ τ r s A l0) (hN : 3000 ≤ N) : ∀ (l : List Kid) (n : Nat) (i a : Int), l.length < n → At (KQ π σ τ A) i l → 0 ≤ i → i + l.length = l0.length → i64 a → Pt_mostCrowd_4 N π n σ r a i = some (σ, mxK (cw τ) a l) ∧ Pt_mostReach_4 N π n σ r a i = some (σ, mxK (rc τ) a l) ∧ Pt_mostWork_4 N π n σ r a i = some (σ, mxK (wk τ) a l)
  | [], n + 1, i, a, _, _, i0, h1, ha => by
    obtain ⟨p1, p2, p3, p4, p5, p6, p7, -⟩ := h
    simp only [List.length_nil] at h1
    refine ⟨?_, ?_, ?_⟩
    · rw [Pt_mostCrowd_4, grd_t p1, p3, grd_t p5, grd_t (by omega), grd_t (by exact ⟨by omega, by omega⟩), grd_t (by exact ⟨by omega, by omega⟩), if_neg (by omega), mxK]
    · rw [Pt_mostReach_4, grd_t p1, p3, grd_t p5, grd_t (by omega), grd_t (by exact ⟨by omega, by omega⟩), grd_t (by exact ⟨by omega, by omega⟩), if_neg (by omega), mxK]
    · rw [Pt_mostWork_4, grd_t p1, p3, grd_t p5, grd_t (by omega), grd_t (by exact ⟨by omega, by omega⟩), grd_t (by exact ⟨by omega, by omega⟩), if_neg (by omega), mxK]
  | k :: l, n + 1, i, a, hn, hA, i0, h1, ha => by
    obtain ⟨p1, p2, p3, p4, p5, p6, p7, -⟩ := id h
    obtain ⟨⟨k1, ⟨k2, k3, k4, k5, k6⟩, k7⟩, kl'⟩ := hA
    obtain ⟨⟨-, ⟨c1, c2⟩, ⟨r1, r2⟩, ⟨w1, w2⟩, -⟩, -⟩ := k7
    simp only [List.length_cons] at h1 hn
    have a1 := ha.1
    have a2 := ha.2
    refine ⟨?_, ?_, ?_⟩
    · rw [Pt_mostCrowd_4, grd_t p1, p3, grd_t p5, grd_t (by omega), grd_t (by exact ⟨by omega, by omega⟩), grd_t (by exact ⟨by omega, by omega⟩), if_pos (by omega), grd_t (by exact ⟨i0, by omega, by omega⟩), grd_t k1, grd_t ha, k3, grd_t (by exact ⟨by omega, by omega⟩), bnd, (c_mxAll_lp h hN l n (i + 1) _ (by omega) kl' (by omega) (by omega) ⟨by omega, by omega⟩).1, mxK]
    · rw [Pt_mostReach_4, grd_t p1, p3, grd_t p5, grd_t (by omega), grd_t (by exact ⟨by omega, by omega⟩), grd_t (by exact ⟨by omega, by omega⟩), if_pos (by omega), grd_t (by exact ⟨i0, by omega, by omega⟩), grd_t k1, grd_t ha, k4, grd_t (by exact ⟨by omega, by omega⟩), bnd, (c_mxAll_lp h hN l n (i + 1) _ (by omega) kl' (by omega) (by omega) ⟨by omega, by omega⟩).2.1, mxK]
    · rw [Pt_mostWork_4, grd_t p1, p3, grd_t p5, grd_t (by omega), grd_t (by exact ⟨by omega, by omega⟩), grd_t (by exact ⟨by omega, by omega⟩), if_pos (by omega), grd_t (by exact ⟨i0, by omega, by omega⟩), grd_t k1, grd_t ha, k5, grd_t (by exact ⟨by omega, by omega⟩), bnd, (c_mxAll_lp h hN l n (i + 1) _ (by omega) kl' (by omega) (by omega) ⟨by omega, by omega⟩).2.2, mxK]
theorem c_mxAll {l : List Kid} (h : NP π σ τ r s A l) (hN : 3000 ≤ N) : Pt_mostCrowd N π σ r = some (σ, mxK (cw τ) 0 l) ∧ Pt_mostReach N π σ r = some (σ, mxK (rc τ) 0 l) ∧ Pt_mostWork N π σ r = some (σ, mxK (wk τ) 0 l) := c_mxAll_lp h hN l N 0 0 (by have := h.2.2.2.2.2.2.1; omega) h.2.2.2.2.2.2.2.1 (Int.le_refl _) (by omega) (by decide)
end ME
