/-! bounds of a pattern: the reference gathers and bounds them -/
section RM2
variable {N : Nat}
theorem r_leastG {g G b : Int} (hN : 200 ≤ N) (h : okG 1125899906842624 g G) (hG : 1 ≤ G) (hb : 1 ≤ b ∧ b ≤ 1000000) : ∃ v, r_least N g b = some v ∧ okG 1125899906842624 v (lcI G b) := by
  obtain ⟨-, -, -, -, u5, u6, u7⟩ := lcI_b hG hb.1
  have g1 : 1 ≤ g ∧ g ≤ 1125899906842624 := by rcases h with ⟨a, rfl⟩ | ⟨a, b, c⟩ <;> omega
  have hG' : 1000000 < G → 1000000 < g := fun c => by rcases h with ⟨a, rfl⟩ | ⟨a, b, c'⟩ <;> omega
  by_cases cg : g < 1125899906842624
  · have g0 : 0 < gC g b := gC_pos (by omega)
    have gl : gC g b ≤ b := gC_le (by omega)
    obtain ⟨w1, w2, -, -, w5, w6, w7⟩ := lcI_b g1.1 hb.1
    have q0 : 0 ≤ 1125899906842624 / b := Int.ediv_nonneg (by decide) (by omega)
    have q2 : 1125899906842624 / b ≤ 1125899906842624 := Int.ediv_le_self _ (by decide)
    have hd : r_least N g b = if g / gC g b < 1125899906842624 / b then some (lcI g b) else some 1125899906842624 := by
      rw [r_least, grd_t (by exact ⟨by omega, by omega⟩), if_pos cg, grd_t (by exact ⟨by omega, by omega⟩), if_pos (by omega), r_gcd hN (by omega) (by omega) (by omega) (by omega), Option.bind_some, grd_t (by exact ⟨by omega, by omega⟩), grd_t (by omega), grd_t (by omega), td_pos (show 0 ≤ g by omega), td_pos (by decide), grd_t (by exact ⟨by omega, by omega⟩), grd_t (by exact ⟨by omega, by omega⟩)]
      rw [Option.bind_some, grd_t (by exact ⟨by omega, by omega⟩), grd_t (by omega), td_pos (show 0 ≤ g by omega)]
      rfl
    by_cases cq : g / gC g b < 1125899906842624 / b
    · rw [if_pos cq] at hd
      refine ⟨_, hd, ?_⟩
      have ub : lcI g b ≤ 1125899906842624 := by
        have : (g / gC g b) * b ≤ 1125899906842624 / b * b := Int.mul_le_mul_of_nonneg_right (by omega) (by omega)
        have := Int.ediv_mul_le 1125899906842624 (show b ≠ 0 by omega)
        show g / gC g b * b ≤ 1125899906842624
        omega
      rcases h with ⟨a, rfl⟩ | ⟨a, b', c⟩
      · exact okG.ex ub
      · exact Or.inr ⟨by omega, by omega, ub⟩
    · rw [if_neg cq] at hd
      refine ⟨_, hd, ?_⟩
      rcases h with ⟨a, rfl⟩ | ⟨a, b', c⟩
      · exfalso
        have : 1125899906 ≤ 1125899906842624 / b := by
          rw [Int.le_ediv_iff_mul_le (by omega)]
          have := Int.mul_le_mul_of_nonneg_left hb.2 (show (0 : Int) ≤ 1125899906 by decide)
          omega
        omega
      · exact Or.inr ⟨by omega, by decide, Int.le_refl _⟩
  · refine ⟨1125899906842624, ?_, ?_⟩
    · rw [r_least, grd_t (by exact ⟨by omega, by omega⟩), if_neg cg, r_least_16]
    · rcases h with ⟨a, rfl⟩ | ⟨a, b', c⟩
      · omega
      · exact Or.inr ⟨by omega, by decide, Int.le_refl _⟩
theorem r_timesG {g G w : Int} (h : okG 1125899906842624 g G) (hG : 1 ≤ G) (hw : 1 ≤ w ∧ w ≤ 1000000) : ∃ v, r_times N g w = some v ∧ okG 1125899906842624 v (w * G) := by
  have g1 : 1 ≤ g ∧ g ≤ 1125899906842624 := by rcases h with ⟨a, rfl⟩ | ⟨a, b, c⟩ <;> omega
  have q0 : 1125899906 ≤ 1125899906842624 / w := by
    rw [Int.le_ediv_iff_mul_le (by omega)]
    have := Int.mul_le_mul_of_nonneg_left hw.2 (show (0 : Int) ≤ 1125899906 by decide)
    omega
  have q2 : 1125899906842624 / w ≤ 1125899906842624 := Int.ediv_le_self _ (by decide)
  have hd : r_times N g w = if g < 1125899906842624 / w then some (g * w) else some 1125899906842624 := by
    rw [r_times, grd_t (by exact ⟨by omega, by omega⟩), if_neg (by omega), grd_t (by omega), grd_t (by exact ⟨by omega, by omega⟩), td_pos (by decide), grd_t (by exact ⟨by omega, by omega⟩), r_times_22]
  have m1 := Int.mul_le_mul_of_nonneg_right hw.1 (show 0 ≤ G by omega)
  by_cases cq : g < 1125899906842624 / w
  · rw [if_pos cq] at hd
    have ub : g * w ≤ 1125899906842624 := by
      have := Int.mul_le_mul_of_nonneg_right (show g ≤ 1125899906842624 / w by omega) (show 0 ≤ w by omega)
      have := Int.ediv_mul_le 1125899906842624 (show w ≠ 0 by omega)
      omega
    refine ⟨_, hd, ?_⟩
    rcases h with ⟨a, rfl⟩ | ⟨a, b', c⟩
    · rw [Int.mul_comm w]
      exact okG.ex ub
    · have m2 := Int.mul_le_mul_of_nonneg_left hw.1 (show 0 ≤ g by omega)
      exact Or.inr ⟨by omega, by omega, ub⟩
  · rw [if_neg cq] at hd
    refine ⟨_, hd, ?_⟩
    rcases h with ⟨a, rfl⟩ | ⟨a, b', c⟩
    · omega
    · exact Or.inr ⟨by omega, by decide, Int.le_refl _⟩
theorem r_up' {x y : Int} (hx : 0 ≤ x ∧ x ≤ 1000000) (hy : 1 ≤ y ∧ y ≤ 1000000) : r_up N x y = some ((x + y - 1) / y) := by
  rw [r_up, grd_t (by exact ⟨by omega, by omega⟩), grd_t (by exact ⟨by omega, by omega⟩), grd_t (by omega), td_pos (by omega)]
/-- kids of a pattern that is being made -/
def KT (τ : St) (i : Int) (k : Kid) : Prop := (el τ 58 i = k.1 ∧ el τ 57 i = k.2.1 + 32 * k.2.2 ∧ 0 ≤ k.1 ∧ k.1 < 103000) ∧ KOK τ k
/-- what gathering changes -/
def GF (τ τ' : St) : Prop := (∀ f i, f < 73 ∨ 83 < f → fl τ' f i = fl τ f i) ∧ ∀ a j, el τ' a j = el τ a j
theorem GF.tr {τ τ1 τ2 : St} (h : GF τ τ1) (k : GF τ1 τ2) : GF τ τ2 := ⟨fun f i a => (k.1 f i a).trans (h.1 f i a), fun a j => (k.2 a j).trans (h.2 a j)⟩
def GS (τ : St) (G c m r w x d : Int) : Prop := okG 1125899906842624 (fl τ 73 0) G ∧ fl τ 74 0 = c ∧ fl τ 75 0 = m ∧ fl τ 76 0 = r ∧ fl τ 77 0 = w ∧ fl τ 78 0 = x ∧ fl τ 79 0 = d
theorem r_gather_lp {τ0 : St} {p : Int} (hN : 3000 ≤ N) (hp : 0 ≤ p ∧ p < 103000) (hk : 0 ≤ el τ0 65 p ∧ 0 ≤ el τ0 64 p ∧ el τ0 65 p + el τ0 64 p ≤ 210000) : ∀ (l : List Kid) (n : Nat) (τ : St) (i G c m r w x d : Int), l.length < n → GF τ0 τ → At (KT τ0) i l → el τ0 65 p ≤ i → i + l.length = el τ0 65 p + el τ0 64 p → GS τ G c m r w x d → 1 ≤ G → (0 ≤ m ∧ m ≤ 400) → (0 ≤ r ∧ r ≤ 64) → (0 ≤ x ∧ x ≤ 50000) → (0 ≤ d ∧ d ≤ 60) → ∃ τ', r_gather_42 N n τ p i = some τ' ∧ GF τ0 τ' ∧ GS τ' (lcK τ0 G l) (c + crS τ0 l) (mxK (cw τ0) m l) (mxK (rc τ0) r l) (w + wkS τ0 l) (mxK (wk τ0) x l) (mxK (fun q => el τ0 59 q) d l) := by
  intro l
  induction l with
  | nil =>
    intro n τ i G c m r w x d hn gf _ i0 h1 gs _ _ _ _ _
    cases n with
    | zero => omega
    | succ n =>
      simp only [List.length_nil] at h1
      refine ⟨τ, ?_, gf, ?_⟩
      · rw [r_gather_42, grd_t (by exact ⟨by omega, by omega⟩), grd_t (by exact ⟨by omega, by omega⟩), gf.2, gf.2, grd_t (by exact ⟨by omega, by omega⟩), if_neg (by omega)]
      · rw [crS, wkS, Int.add_zero, Int.add_zero]
        exact gs
  | cons k l ih =>
    intro n τ i G c m r w x d hn gf hA i0 h1 gs hG hm hr hx hd
    cases n with
    | zero => omega
    | succ n =>
      simp only [List.length_cons] at h1 hn
      obtain ⟨⟨⟨k1, k2, k3, k4⟩, ⟨⟨g1, g2⟩, ⟨c1, c2⟩, ⟨r1, r2⟩, ⟨w1, w2⟩, -⟩, ⟨d1, d2⟩, ⟨e1, e2⟩, ⟨o1, o2⟩⟩, kl'⟩ := hA
      obtain ⟨s1, s2, s3, s4, s5, s6, s7⟩ := gs
      obtain ⟨v, v1, v2⟩ := r_leastG (N := N) (b := gr τ0 k.1) (by omega) s1 hG ⟨g1, g2⟩
      obtain ⟨-, -, -, -, u5, -, -⟩ := lcI_b hG g1
      have td : Int.tdiv (k.2.1 + 32 * k.2.2) 32 = k.2.2 := by rw [td_pos (by omega)]; omega
      have mm : ∀ {a b : Int}, (if a < b then b else a) = max a b := fun {a b} => by
        by_cases h : a < b
        · rw [if_pos h]; omega
        · rw [if_neg h]; omega
      obtain ⟨τ', q1, q2, q3⟩ := ih n (sf (sf (sf (sf (sf (sf (sf τ 73 0 v) 74 0 (c + k.2.2 * cw τ0 k.1)) 75 0 (max m (cw τ0 k.1))) 76 0 (max r (rc τ0 k.1))) 77 0 (w + k.2.2 * wk τ0 k.1)) 78 0 (max x (wk τ0 k.1))) 79 0 (max d (el τ0 59 k.1))) (i + 1) (lcI G (gr τ0 k.1)) (c + k.2.2 * cw τ0 k.1) (max m (cw τ0 k.1)) (max r (rc τ0 k.1)) (w + k.2.2 * wk τ0 k.1) (max x (wk τ0 k.1)) (max d (el τ0 59 k.1)) (by omega) (gf.tr ⟨fun f j hf => by rw [fl_sfn _ _ _ _ (by omega), fl_sfn _ _ _ _ (by omega), fl_sfn _ _ _ _ (by omega), fl_sfn _ _ _ _ (by omega), fl_sfn _ _ _ _ (by omega), fl_sfn _ _ _ _ (by omega), fl_sfn _ _ _ _ (by omega)], fun _ _ => rfl⟩) kl' (by omega) (by omega) ⟨v2, rfl, rfl, rfl, rfl, rfl, rfl⟩ (by omega) ⟨by omega, by omega⟩ ⟨by omega, by omega⟩ ⟨by omega, by omega⟩ ⟨by omega, by omega⟩
      refine ⟨τ', ?_, q2, ?_⟩
      · rw [r_gather_42, grd_t (by exact ⟨by omega, by omega⟩), grd_t (by exact ⟨by omega, by omega⟩), gf.2, gf.2, grd_t (by exact ⟨by omega, by omega⟩), if_pos (by omega), grd_t (by exact ⟨by omega, by omega⟩), gf.2, k1, bnd, gf.2, k2, grd_t (by exact ⟨by omega, by omega⟩), td, bnd, grd_t (by exact ⟨by omega, by omega⟩), gf.2, show el τ0 63 k.1 = gr τ0 k.1 from rfl, grd_t (by exact ⟨by omega, by omega⟩), v1, Option.bind_some, grd_t (by exact ⟨by omega, by omega⟩), gf.2, show el τ0 62 k.1 = cw τ0 k.1 from rfl, grd_t (by exact ⟨by omega, by omega⟩), grd_t (by exact ⟨by omega, by omega⟩), s3, grd_t (by exact ⟨by omega, by omega⟩), s2]
        have j4 : ∀ (t : St) (z : Int), (∀ a j, el t a j = el τ0 a j) → fl t 79 0 = d → z = max x (wk τ0 k.1) → r_gather_231 N (r_gather_42 N n) t p i k.1 z = r_gather_42 N n (sf (sf t 78 0 (max x (wk τ0 k.1))) 79 0 (max d (el τ0 59 k.1))) p (i + 1) := by
          intro t z ht h79 hz
          rw [r_gather_231, grd_t (by exact ⟨by omega, by omega⟩), ht, grd_t (by exact ⟨by omega, by omega⟩), h79, grd_t (by exact ⟨by omega, by omega⟩), hz]
          by_cases cd : d < el τ0 59 k.1
          · rw [if_pos cd, r_gather_261, show max d (el τ0 59 k.1) = el τ0 59 k.1 by omega]
          · rw [if_neg cd, r_gather_261, show max d (el τ0 59 k.1) = d by omega]
        have j3 : ∀ (t : St) (z : Int), (∀ a j, el t a j = el τ0 a j) → fl t 79 0 = d → fl t 78 0 = x → fl t 77 0 = w → z = max r (rc τ0 k.1) → r_gather_178 N (r_gather_42 N n) t p i k.1 k.2.2 z = r_gather_42 N n (sf (sf (sf (sf t 76 0 (max r (rc τ0 k.1))) 77 0 (w + k.2.2 * wk τ0 k.1)) 78 0 (max x (wk τ0 k.1))) 79 0 (max d (el τ0 59 k.1))) p (i + 1) := by
          intro t z ht h79 h78 h77 hz
          rw [r_gather_178, grd_t (by exact ⟨by omega, by omega⟩), grd_t (by exact ⟨by omega, by omega⟩), ht, show el τ0 60 k.1 = wk τ0 k.1 from rfl, grd_t (by exact ⟨by omega, by omega⟩), grd_t (by exact ⟨by omega, by omega⟩), h78, grd_t (by exact ⟨by omega, by omega⟩), h77, hz]
          by_cases cd : x < wk τ0 k.1
          · rw [if_pos cd]
            exact j4 _ _ ht h79 (by omega)
          · rw [if_neg cd]
            exact j4 _ _ ht h79 (by omega)
        have j2 : ∀ (t : St) (z : Int), (∀ a j, el t a j = el τ0 a j) → fl t 79 0 = d → fl t 78 0 = x → fl t 77 0 = w → fl t 76 0 = r → z = max m (cw τ0 k.1) → r_gather_145 N (r_gather_42 N n) t p i k.1 k.2.2 z = r_gather_42 N n (sf (sf (sf (sf (sf t 75 0 (max m (cw τ0 k.1))) 76 0 (max r (rc τ0 k.1))) 77 0 (w + k.2.2 * wk τ0 k.1)) 78 0 (max x (wk τ0 k.1))) 79 0 (max d (el τ0 59 k.1))) p (i + 1) := by
          intro t z ht h79 h78 h77 h76 hz
          rw [r_gather_145, grd_t (by exact ⟨by omega, by omega⟩), ht, show el τ0 61 k.1 = rc τ0 k.1 from rfl, grd_t (by exact ⟨by omega, by omega⟩), grd_t (by exact ⟨by omega, by omega⟩), h76, grd_t (by exact ⟨by omega, by omega⟩), hz]
          by_cases cd : r < rc τ0 k.1
          · rw [if_pos cd]
            exact j3 _ _ ht h79 h78 h77 (by omega)
          · rw [if_neg cd]
            exact j3 _ _ ht h79 h78 h77 (by omega)
        by_cases cd : m < cw τ0 k.1
        · rw [if_pos cd]
          exact (j2 (sf (sf τ 73 0 v) 74 0 (c + k.2.2 * cw τ0 k.1)) _ gf.2 s7 s6 s5 s4 (by omega)).trans q1
        · rw [if_neg cd]
          exact (j2 (sf (sf τ 73 0 v) 74 0 (c + k.2.2 * cw τ0 k.1)) _ gf.2 s7 s6 s5 s4 (by omega)).trans q1
      · rw [crS, wkS, ← Int.add_assoc, ← Int.add_assoc]
        exact q3
theorem r_gather' {τ : St} {p : Int} {l : List Kid} (hN : 3000 ≤ N) (hp : 0 ≤ p ∧ p < 103000) (hk : 0 ≤ el τ 65 p ∧ el τ 64 p = l.length ∧ el τ 65 p + el τ 64 p ≤ 210000) (hl : l.length ≤ 2000) (hA : At (KT τ) (el τ 65 p) l) : ∃ τ', r_gather N τ p = some τ' ∧ GF τ τ' ∧ GS τ' (lcK τ 1 l) (crS τ l) (mxK (cw τ) 0 l) (mxK (rc τ) 0 l) (wkS τ l) (mxK (wk τ) 0 l) (mxK (fun q => el τ 59 q) 0 l) := by
  obtain ⟨τ', q1, q2, q3⟩ := r_gather_lp (N := N) (τ0 := τ) (p := p) hN hp ⟨hk.1, by omega, hk.2.2⟩ l N (sf (sf (sf (sf (sf (sf (sf τ 73 0 1) 74 0 0) 75 0 0) 76 0 0) 77 0 0) 78 0 0) 79 0 0) (el τ 65 p) 1 0 0 0 0 0 0 (by omega) ⟨fun f j hf => by rw [fl_sfn _ _ _ _ (by omega), fl_sfn _ _ _ _ (by omega), fl_sfn _ _ _ _ (by omega), fl_sfn _ _ _ _ (by omega), fl_sfn _ _ _ _ (by omega), fl_sfn _ _ _ _ (by omega), fl_sfn _ _ _ _ (by omega)], fun _ _ => rfl⟩ hA (Int.le_refl _) (by omega) ⟨Or.inl ⟨by decide, rfl⟩, rfl, rfl, rfl, rfl, rfl, rfl⟩ (by omega) (by omega) (by omega) (by omega) (by omega)
  rw [Int.zero_add, Int.zero_add] at q3
  refine ⟨τ', ?_, q2, q3⟩
  rw [r_gather, grd_t (by exact ⟨by omega, by omega⟩), bnd]
  exact q1
end RM2
