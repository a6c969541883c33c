/-! rows of the class, kind by kind: leaves, turns, choices, squeezed -/
theorem katL_at : ∀ (l : List Kid) (v : Int) (i : Nat) (h : i < l.length), (∀ k ∈ l, 0 ≤ k.2.1 * k.2.2) → wS (l.take i) ≤ v → (v < wS (l.take (i + 1)) ∨ i + 1 = l.length) → katL l v = (l[i]'h).1
  | [k], v, i, h, _, _, _ => by
    have : i = 0 := by simp at h; exact h
    subst this
    rfl
  | k :: k' :: l, v, 0, h, hp, h1, h2 => by
    rw [katL]
    · rw [if_pos ?_]
      · rfl
      · rcases h2 with h2 | h2
        · simp only [List.take_succ_cons, List.take_zero, wS] at h2
          omega
        · simp at h2
    · intro h; cases h
  | k :: k' :: l, v, i + 1, h, hp, h1, h2 => by
    have pk := hp k (by simp)
    rw [List.take_succ_cons, wS] at h1
    have t0 : 0 ≤ wS ((k' :: l).take i) := by
      have : ∀ l : List Kid, (∀ k ∈ l, 0 ≤ k.2.1 * k.2.2) → 0 ≤ wS l := by
        intro l
        induction l with
        | nil => intro _; exact Int.le_refl _
        | cons x l ih =>
          intro hx
          have := ih (fun y hy => hx y (by simp [hy]))
          have := hx x (by simp)
          rw [wS]; omega
      exact this _ (fun x hx => hp x (by have := List.mem_of_mem_take hx; simp only [List.mem_cons] at this ⊢; exact Or.inr this))
    rw [katL]
    · rw [if_neg (by omega)]
      rw [katL_at (k' :: l) (v - k.2.1 * k.2.2) i (by simp only [List.length_cons] at h ⊢; omega) (fun x hx => hp x (by simp only [List.mem_cons] at hx ⊢; exact Or.inr hx)) (by omega) (by
        rcases h2 with h2 | h2
        · rw [List.take_succ_cons, wS] at h2
          exact Or.inl (by omega)
        · exact Or.inr (by simp only [List.length_cons] at h2 ⊢; omega))]
      rfl
    · intro h; cases h
theorem kidF_get {τ : St} : ∀ (n : Nat) (a : Int) (i : Nat) (h : i < (kidF τ a n).length), (kidF τ a n)[i]'h = (el τ 58 (a + i), el τ 57 (a + i) % 32, el τ 57 (a + i) / 32)
  | 0, a, i, h => by simp [kidF] at h
  | n + 1, a, 0, h => by
    show (el τ 58 a, el τ 57 a % 32, el τ 57 a / 32) = _
    rw [show a + ((0 : Nat) : Int) = a by omega]
  | n + 1, a, i + 1, h => by
    have := kidF_get (τ := τ) n (a + 1) i (by simp only [kidF, List.length_cons] at h; omega)
    show (kidF τ (a + 1) n)[i]'_ = _
    rw [this, show a + 1 + (i : Int) = a + ((i + 1 : Nat) : Int) by omega]
section CK1
variable {N : Nat} {π : Sh} {τ : St} {d : Nat} {σ : St} {r p c : Int}
theorem c_partAt_lp (h : PH N π τ d σ r p c) {σ1 : St} {m0 v : Int} (hE : EF m0 σ σ1) (hW : WA π σ τ (fl σ 100 r) p) (hv : 0 ≤ v) (h64 : i64 v) (hp : ∀ k ∈ kl τ p, 1 ≤ k.2.1 ∧ 1 ≤ k.2.2) (hw : wS (kl τ p) ≤ 1000000) : ∀ (n : Nat) (lo hi : Int), hi - lo < n → 0 ≤ lo → lo ≤ hi → hi < el τ 64 p → wS ((kl τ p).take lo.toNat) ≤ v → (v < wS ((kl τ p).take (hi.toNat + 1)) ∨ hi + 1 = el τ 64 p) → ∃ i, 0 ≤ i ∧ i < el τ 64 p ∧ Rw_partAt_11 N π n σ1 r v lo hi = some (σ1, el σ (fl σ 101 r) i) ∧ katL (kl τ p) v = kd τ p i := by
  obtain ⟨⟨a1, a2, a3, a4⟩, a5, a6, a7, a8, a9, a10⟩ := h.at hE
  have bT := h.2.2.1.2.2.1
  intro n
  induction n with
  | zero => intro lo hi h1 h2 h3; omega
  | succ n ih =>
    intro lo hi hn l0 l1 l2 w1 w2
    have many : el τ 64 p ≤ 210000 := by omega
    by_cases c1 : lo < hi
    · have mid : Int.tdiv (lo + hi) 2 = (lo + hi) / 2 := td_pos (by omega)
      have hen := (hW.2.2.2 ((lo + hi) / 2) (by omega) (by omega)).2.2
      have e1 : fl σ1 213 (fl σ 100 r) = fl σ 213 (fl σ 100 r) := a9 213 (by omega)
      have e2 : el σ1 (fl σ 213 (fl σ 100 r)) ((lo + hi) / 2) = wS ((kl τ p).take (((lo + hi) / 2).toNat + 1)) := by
        rw [hE.2.2.1 _ _ (by have := hW.2.2.1.2.2; omega)]
        exact hen
      have tk : ∀ (l : List Kid), (∀ k ∈ l, 1 ≤ k.2.1 ∧ 1 ≤ k.2.2) → ∀ m, 0 ≤ wS (l.take m) ∧ wS (l.take m) ≤ wS l := by
        intro l
        induction l with
        | nil => intro _ m; simp [wS]
        | cons x l ihl =>
          intro hx m
          have h1 := ihl (fun y hy => hx y (by simp [hy])) (m - 1)
          have h2 := hx x (by simp)
          have h3 := Int.mul_le_mul_of_nonneg_left h2.2 (show 0 ≤ x.2.1 by omega)
          cases m with
          | zero => simp only [List.take_zero, wS]; omega
          | succ m => simp only [List.take_succ_cons, wS]; rw [Nat.add_sub_cancel] at h1; omega
      have tb := tk (kl τ p) hp (((lo + hi) / 2).toNat + 1)
      have st : Rw_partAt_11 N π (n + 1) σ1 r v lo hi = if v < wS ((kl τ p).take (((lo + hi) / 2).toNat + 1)) then Rw_partAt_11 N π n σ1 r v lo ((lo + hi) / 2) else Rw_partAt_11 N π n σ1 r v ((lo + hi) / 2 + 1) hi := by
        rw [Rw_partAt_11, grd_t (by exact ⟨by omega, by omega⟩), grd_t (by exact ⟨by omega, by omega⟩), if_pos c1, grd_t (by exact ⟨by omega, by omega⟩), bnd, mid, grd_t a1, a2, grd_t a5, e1, grd_t hW.2.2.1.1, grd_t (by exact ⟨by omega, by have := hW.2.2.1.2.1; omega, by omega⟩), e2, grd_t (by exact ⟨by omega, by omega⟩), grd_t h64, grd_t (by exact ⟨by omega, by omega⟩)]
        rfl
      by_cases c2 : v < wS ((kl τ p).take (((lo + hi) / 2).toNat + 1))
      · obtain ⟨i, i0, i1, i2, i3⟩ := ih lo ((lo + hi) / 2) (by omega) l0 (by omega) (by omega) w1 (Or.inl c2)
        exact ⟨i, i0, i1, by rw [st, if_pos c2]; exact i2, i3⟩
      · obtain ⟨i, i0, i1, i2, i3⟩ := ih ((lo + hi) / 2 + 1) hi (by omega) (by omega) (by omega) l2 (by
          rw [show ((lo + hi) / 2 + 1).toNat = ((lo + hi) / 2).toNat + 1 by omega]; omega) w2
        exact ⟨i, i0, i1, by rw [st, if_neg c2]; exact i2, i3⟩
    · have e : lo = hi := by omega
      subst e
      have kln : (kl τ p).length = (el τ 64 p).toNat := kidF_len _ _ _
      refine ⟨lo, l0, l2, ?_, ?_⟩
      · rw [Rw_partAt_11, grd_t (by exact ⟨by omega, by omega⟩), grd_t (by exact ⟨by omega, by omega⟩), if_neg c1, grd_t a1, a3, grd_t a6, grd_t (by exact ⟨by omega, by omega, by omega⟩), (a8 lo l0 l2).1]
      · rw [katL_at (kl τ p) v lo.toNat (by omega) (fun k hk => Int.mul_nonneg (by have := hp k hk; omega) (by have := hp k hk; omega)) w1 (by
          rcases w2 with w2 | w2
          · exact Or.inl w2
          · exact Or.inr (by omega))]
        have := kidF_get (τ := τ) (el τ 64 p).toNat (el τ 65 p) lo.toNat (by rw [kidF_len]; omega)
        rw [show ((lo.toNat : Nat) : Int) = lo by omega] at this
        exact congrArg Prod.fst this
theorem c_partAt (h : PH N π τ d σ r p c) {σ1 : St} {m0 v : Int} (hE : EF m0 σ σ1) (hW : WA π σ τ (fl σ 100 r) p) (hm : 1 ≤ el τ 64 p) (hv : 0 ≤ v) (h64 : i64 v) (hp : ∀ k ∈ kl τ p, 1 ≤ k.2.1 ∧ 1 ≤ k.2.2) (hw : wS (kl τ p) ≤ 1000000) (hN : 210001 ≤ N) : ∃ i, 0 ≤ i ∧ i < el τ 64 p ∧ Rw_partAt N π σ1 r v = some (σ1, el σ (fl σ 101 r) i) ∧ katL (kl τ p) v = kd τ p i := by
  obtain ⟨⟨a1, a2, a3, a4⟩, a5, a6, a7, a8, a9, a10⟩ := h.at hE
  have bT := h.2.2.1.2.2.1
  obtain ⟨i, i0, i1, i2, i3⟩ := c_partAt_lp h hE hW hv h64 hp hw N 0 (el τ 64 p - 1) (by omega) (Int.le_refl _) (by omega) (by omega) (by simp [wS, hv]) (Or.inr (by omega))
  refine ⟨i, i0, i1, ?_, i3⟩
  rw [Rw_partAt, grd_t a1, a3, grd_t a6, a7, grd_t (by omega), bnd]
  exact i2
/-- one kid's row, stretched: what either, turn and the like end in -/
theorem ck_one (h : PH N π τ d σ r p c) {i c' k b : Int} (h0 : 0 ≤ i) (h1 : i < el τ 64 p) (hc : CB τ d (kd τ p i) c') (hs : sub τ p (kd τ p i)) (hk : i64 k) (hb : i64 b) : ∃ σ2 σ3, Rw_rowC N d π σ (el σ (fl σ 101 r) i) c' = some σ2 ∧ EF (fl σ 46 10) σ σ2 ∧ Es_scale N π σ2 (fl σ 46 10) k b = some σ3 ∧ HK σ (mv k b (rowL τ d (kd τ p i) c')) (some σ3) := by
  obtain ⟨-, -, -, -, -, -, t0, t1, -⟩ := id h
  have w := h.2.2.1.2.1.2.2.2.1
  have pm := phi_mono hs.2.2 w.2
  obtain ⟨σ2, σ3, q1, q2, q3, q4, q5, q6⟩ := h.kidmv (EF.rf 0 σ) h0 h1 hc t0 (by have := hs.1; omega) hk hb
  exact ⟨σ2, σ3, q1, q2, q3, σ3, rfl, q4, q5, q6⟩
theorem ck_either (h : PH N π τ d σ r p c) {i : Int} (h01 : i = 0 ∨ i = 1) (h2 : el τ 64 p = 2) (hd : gr τ (kd τ p i) ∣ gr τ p) (hs : sub τ p (kd τ p i)) : HK σ (mv (gr τ p / gr τ (kd τ p i)) 0 (rowL τ d (kd τ p i) c)) (Rw_either N (Rw_rowC N d) π σ r c i) := by
  obtain ⟨g1, g2⟩ := h.2.2.1.2.1.1
  have kn := (h.kn (i := i) (by omega) (by omega)).2.1
  have kc := h.2.2.2.1.same (c' := c) (h.kn (i := i) (by omega) (by omega)).2.2.2.2.1.1 hs.2.2 (by omega) (by omega)
  have dp := dv_pos hd kn.1 g1
  have dl : gr τ p / gr τ (kd τ p i) ≤ gr τ p := Int.ediv_le_self _ (by omega)
  obtain ⟨σ2, σ3, q1, q2, q3, q4⟩ := ck_one h (i := i) (c' := c) (k := gr τ p / gr τ (kd τ p i)) (b := 0) (by omega) (by omega) kc hs ⟨by omega, by omega⟩ (by decide)
  obtain ⟨⟨a1, a2, a3, a4⟩, a5, a6, a7, a8, a9, a10⟩ := h.at (EF.rf 0 σ)
  obtain ⟨⟨b1, b2, b3, b4⟩, b5, b6, b7, b8, b9, b10⟩ := h.at q2
  obtain ⟨c1, c2, c3, c4⟩ := b8 i (by omega) (by omega)
  have key : Rw_either_20 N (Rw_rowC N d) π σ r c (el σ (fl σ 101 r) i) = some σ3 := by
    rw [Rw_either_20, q1, Option.bind_some, grd_t b1, grd_t c2, b4, c3, grd_t (by exact ⟨by omega, by omega⟩), grd_t (by exact ⟨by omega, by omega⟩), grd_t (by omega), td_pos (by omega), q3, Option.bind_some]
  have e : Rw_either N (Rw_rowC N d) π σ r c i = some σ3 := by
    rcases h01 with rfl | rfl
    · rw [Rw_either, grd_t (by decide), if_pos rfl, grd_t a1, grd_t a6, grd_t (by exact ⟨by omega, by omega, by omega⟩), key]
    · rw [Rw_either, grd_t (by decide), if_neg (by decide), grd_t a1, grd_t a6, grd_t (by exact ⟨by omega, by omega, by omega⟩), key]
  rw [e]
  exact q4
theorem ck_turn (h : PH N π τ d σ r p c) (hN : 210001 ≤ N) (hK : el τ 70 p = 6) (hn : NK6 τ p) : HK σ (rowK τ (rowL τ d) p c) (Rw_turn N (Rw_rowC N d) π σ r c) := by
  obtain ⟨n0, n1, n2⟩ := hn
  obtain ⟨g1, g2⟩ := h.2.2.1.2.1.1
  have hp : ∀ k ∈ kl τ p, 1 ≤ k.2.1 ∧ 1 ≤ k.2.2 := fun k hk => ⟨(n2 k hk).1.1, (n2 k hk).2.1.1⟩
  have cb := h.2.2.2.1.abs h.2.2.1.2.1
  obtain ⟨⟨a1, a2, a3, a4⟩, a5, a6, a7, a8, a9, a10⟩ := h.at (EF.rf 0 σ)
  have hW := a10.2.2.2.2.2.2 (Or.inr (Or.inl hK))
  have ea : fl σ 202 (fl σ 100 r) = wS (kl τ p) := by
    rw [a10.2.2.1 (by omega) (by omega) (by omega), if_neg (by omega), if_pos (by omega)]
  obtain ⟨w0, w1⟩ := wS_pos hp
  have kne : 0 < (kl τ p).length := by show 0 < (kidF _ _ _).length; rw [kidF_len]; omega
  have wp : 1 ≤ wS (kl τ p) := by
    have k1 := hp _ (List.getElem_mem kne)
    have k2 := w1 _ (List.getElem_mem kne)
    omega
  have m0 := Int.emod_nonneg c (show wS (kl τ p) ≠ 0 by omega)
  have m1 := Int.emod_lt_of_pos c (show 0 < wS (kl τ p) by omega)
  obtain ⟨i, i0, i1, i2, i3⟩ := c_partAt h (EF.rf 0 σ) hW n0 m0 ⟨by omega, by omega⟩ hp n1 hN
  have kp : ∃ k ∈ kl τ p, k.1 = kd τ p i := by
    obtain ⟨k, hk, e⟩ := katL_mem (c % wS (kl τ p)) (show kl τ p ≠ [] from fun e => by rw [e] at kne; simp at kne)
    exact ⟨k, hk, by rw [← e, i3]⟩
  obtain ⟨k, hk, ek⟩ := kp
  obtain ⟨-, -, k3, k4⟩ := n2 k hk
  rw [ek] at k3 k4
  have kn := (h.kn (i := i) i0 i1).2.1
  have db : -(if 0 ≤ c then c else -c) ≤ c / wS (kl τ p) ∧ c / wS (kl τ p) ≤ (if 0 ≤ c then c else -c) := by
    split
    · have := Int.ediv_nonneg (show 0 ≤ c by assumption) w0
      have := Int.ediv_le_self (wS (kl τ p)) (show 0 ≤ c by assumption)
      omega
    · have h1 : c ≤ c / wS (kl τ p) := by
        rw [Int.le_ediv_iff_mul_le (by omega)]
        have := Int.mul_le_mul_of_nonpos_left (a := c) (by omega) wp
        omega
      have h2 : c / wS (kl τ p) ≤ 0 := by
        have := Int.ediv_neg_of_neg_of_pos (show c < 0 by omega) (show 0 < wS (kl τ p) by omega)
        omega
      omega
  have kc : CB τ d (kd τ p i) (c / wS (kl τ p)) := h.2.2.2.1.kid (m := 1) (by omega) (h.kn i0 i1).2.2.2.2.1.1 (by have := k4.2.2; omega) (fun X x0 x1 x2 => by
    split at db <;> omega)
  have dp := dv_pos k3 kn.1 g1
  have dl : gr τ p / gr τ (kd τ p i) ≤ gr τ p := Int.ediv_le_self _ (by omega)
  obtain ⟨σ2, σ3, q1, q2, q3, q4⟩ := ck_one h (i := i) (c' := c / wS (kl τ p)) (k := gr τ p / gr τ (kd τ p i)) (b := 0) i0 i1 kc k4 ⟨by omega, by omega⟩ (by decide)
  obtain ⟨⟨b1, b2, b3, b4⟩, b5, b6, b7, b8, b9, b10⟩ := h.at q2
  obtain ⟨c1, c2, c3, c4⟩ := b8 i i0 i1
  have mx : max 1 (wS (kl τ p)) = wS (kl τ p) := by omega
  have e : Rw_turn N (Rw_rowC N d) π σ r c = some σ3 := by
    rw [Rw_turn, grd_t a1, grd_t a5, ea, grd_t (by exact ⟨by omega, by omega⟩), mx, grd_t (by exact ⟨by omega, by omega⟩), bnd, c_fmod ⟨by omega, by omega⟩ ⟨by omega, by omega⟩ (by omega), Option.bind_some, i2, Option.bind_some, c_fdiv ⟨by omega, by omega⟩ ⟨by omega, by omega⟩ (by omega), Option.bind_some, q1, Option.bind_some, grd_t c2, b4, c3, grd_t (by exact ⟨by omega, by omega⟩), grd_t (by exact ⟨by omega, by omega⟩), grd_t (by omega), td_pos (by omega), q3, Option.bind_some]
  have er : rowK τ (rowL τ d) p c = mv (gr τ p / gr τ (kd τ p i)) 0 (rowL τ d (kd τ p i) (c / wS (kl τ p))) := by
    unfold rowK
    simp only [hK]
    rw [i3]
    rfl
  rw [e, er]
  exact q4
end CK1
