/-! rows of the reference: windows -/
section RX
variable {N : Nat} {τ0 : St} {d : Nat} {k p c : Int}
theorem r_window_lp {e x5 x8 : Int} {P : Evt → Bool} (h : PR2 N τ0 d k p c e) (hx5 : x5 = 0 ∨ x5 = 1) (hst : ∀ (n : Nat) (τ : St) (y : Evt) (i to : Int), TB τ0 τ → el τ 52 i = y.1 + c * gr τ0 p → 0 ≤ y.1 → y.1 ≤ 1000000 → 0 ≤ i → i < fl τ 84 0 → fl τ 84 0 ≤ 29999 → r_window_53 N (n + 1) τ p c x5 (gr τ0 p) x8 to i = r_window_188 N (r_window_53 N n) τ p c x5 (gr τ0 p) x8 to i (if P y then 1 else 0)) : ∀ (l : List (Evt × Vl)) (n : Nat) (τ : St) (K : List (Evt × Vl)) (m i : Int) (Pl : List Evt), l.length < n → TB τ0 τ → 0 ≤ m → At (RM τ) m K → At (RM τ) i l → l.map Prod.fst = ab (c * gr τ0 p) Pl → (∀ x ∈ Pl, 0 ≤ x.1 ∧ x.1 ≤ 1000000) → m + K.length ≤ i → i + l.length = fl τ 84 0 → fl τ 84 0 ≤ 29999 → ∃ τ', r_window_53 N n τ p c x5 (gr τ0 p) x8 (m + K.length) i = some τ' ∧ RP m τ τ' ∧ fl τ' 84 0 = m + K.length + (Pl.filter (fun x => decide ((if P x then 1 else 0 : Int) = x5))).length ∧ At (RE τ') m (K.map Prod.fst ++ ab (c * gr τ0 p) (Pl.filter (fun x => decide ((if P x then 1 else 0 : Int) = x5))))
  | [], n + 1, τ, K, m, i, Pl, _, tb, m0, hA, _, hPl, _, hi, h1, h2 => by
    have : Pl = [] := by
      cases Pl with
      | nil => rfl
      | cons x l => simp [ab] at hPl
    subst this
    simp only [List.length_nil] at h1
    refine ⟨sf τ 84 0 (m + K.length), ?_, ⟨fun f j hf => fl_sfn _ _ _ _ hf, fun _ _ _ => rfl, fun _ _ _ => rfl⟩, by rw [fl_sfs]; simp, ?_⟩
    · rw [r_window_53, grd_t (by exact ⟨by omega, by omega⟩), grd_t (by exact ⟨by omega, by omega⟩), if_neg (by omega)]
    · show At (RE τ) m (K.map Prod.fst ++ [])
      rw [List.append_nil]
      exact RM.re hA
  | x :: l, n + 1, τ, K, m, i, [], _, _, _, _, _, hPl, _, _, _, _ => by simp [ab] at hPl
  | x :: l, n + 1, τ, K, m, i, y :: Pl, hn, tb, m0, hA, hl, hPl, hb, hi, h1, h2 => by
    simp only [List.length_cons] at h1 hn
    obtain ⟨b1, b2⟩ := hb y (by simp)
    have hx : x.1 = (y.1 + c * gr τ0 p, y.1 + y.2.1 + c * gr τ0 p, y.2.2) ∧ l.map Prod.fst = ab (c * gr τ0 p) Pl := by
      unfold ab at hPl
      rw [List.map_cons, List.map_cons] at hPl
      injection hPl with u1 u2
      exact ⟨u1, u2⟩
    obtain ⟨ax, al⟩ := hl
    have e52 : el τ 52 i = y.1 + c * gr τ0 p := by rw [ax.1.1, hx.1]
    have st := hst n τ y i (m + K.length) tb e52 b1 b2 (by omega) (by omega) h2
    have hz : i32 (if P y then 1 else 0) := by split <;> decide
    have hz2 : i32 x5 := by rcases hx5 with k | k <;> rw [k] <;> decide
    rw [List.filter_cons]
    by_cases cc : (if P y then 1 else 0 : Int) = x5
    · obtain ⟨τ1, p1, p2, p3, p4, p5⟩ := r_copied (N := N) (m := m) m0 (show m ≤ m + (K.length : Int) by omega) hi (by omega) ax
      have kk : m + (K.length : Int) + 1 = m + ((K ++ [x]).length : Int) := by simp only [List.length_append, List.length_cons, List.length_nil]; omega
      obtain ⟨τ2, z1, z2, z3, z4⟩ := r_window_lp h hx5 hst l n τ1 (K ++ [x]) m (i + 1) Pl (by omega) ((p3.rq (k := 0)).tb tb) m0 ((RM.of (fun b j _ j2 => p5 b j (by omega)) hA).snoc p4) (RM.of (fun b j j1 _ => p5 b j (by omega)) al) hx.2 (fun w hw => hb w (by simp [hw])) (by omega) (by rw [p2]; omega) (by rw [p2]; omega)
      rw [if_pos (decide_eq_true cc)]
      refine ⟨τ2, ?_, p3.tr z2 (Int.le_refl _), ?_, ?_⟩
      · rw [st, r_window_188, grd_t hz, grd_t hz2, if_pos cc, p1, Option.bind_some, r_window_211, kk]
        exact z1
      · rw [z3]; simp only [List.length_append, List.length_cons, List.length_nil]; omega
      · rw [List.map_append, List.append_assoc] at z4
        have : ab (c * gr τ0 p) (y :: Pl.filter (fun x => decide ((if P x then 1 else 0 : Int) = x5))) = [x.1] ++ ab (c * gr τ0 p) (Pl.filter (fun x => decide ((if P x then 1 else 0 : Int) = x5))) := by
          rw [hx.1]; rfl
        rw [this]
        exact z4
    · obtain ⟨τ2, z1, z2, z3, z4⟩ := r_window_lp h hx5 hst l n τ K m (i + 1) Pl (by omega) tb m0 hA al hx.2 (fun w hw => hb w (by simp [hw])) (by omega) (by omega) (by omega)
      rw [if_neg (by rw [decide_eq_true_iff]; exact cc)]
      refine ⟨τ2, ?_, z2, z3, z4⟩
      rw [st, r_window_188, grd_t hz, grd_t hz2, if_neg cc, r_window_211]
      exact z1
/-- the two windows of a node -/
theorem rk_win {τ : St} (h : PR2 N τ0 d k p c (fl τ 84 0)) (tb : TB τ0 τ) (hF : FRM τ k p c) (hK : el τ0 70 p = 15 ∨ el τ0 70 p = 16) (hn : NK15 τ0 p) {P : Evt → Bool} (hW : ∀ (τ2 : St) (m : Int) (Pl B : List Evt) (x5 : Int), (x5 = 0 ∨ x5 = 1) → NR τ0 τ k p c (fl τ 84 0) (B ++ ab (c * gr τ0 p) Pl) τ2 → el τ2 38 k = fl τ 84 0 + B.length → fl τ2 84 0 ≤ 29999 → (∀ x ∈ Pl, 0 ≤ x.1 ∧ x.1 ≤ 1000000) → ∃ τ3, r_window N τ2 k p c x5 = some τ3 ∧ NR τ0 τ k p c (fl τ 84 0) (B ++ ab (c * gr τ0 p) (Pl.filter (fun x => decide ((if P x then 1 else 0 : Int) = x5)))) τ3 ∧ ∀ a, a < 43 → el τ3 a k = el τ2 a k) : GO N τ k (fl τ 84 0) (ab (c * gr τ0 p) (sortE ((mv (gr τ0 p / gr τ0 (kd τ0 p 0)) 0 (rowL τ0 d (kd τ0 p 0) c)).filter (fun e => !P e) ++ (mv (gr τ0 p / gr τ0 (kd τ0 p 1)) 0 (rowL τ0 d (kd τ0 p 1) c)).filter P))) τ (1 + (sbd d + 1) + (sbd d + 1)) := by
  obtain ⟨n1, n2, n3, n4, n5, n6, n7, n8⟩ := hn
  obtain ⟨hHR, hT, hC, k0, k1, e0, e1, hN⟩ := id h
  obtain ⟨⟨g1, g2⟩, ⟨cp1, cp2⟩, -, ⟨wp1, wp2⟩, -⟩ := hT.2.1
  have pp := hT.pos
  have cb := hC.abs hT.2.1
  have ph := phi_lo (show 0 ≤ wk τ0 p by omega)
  have hA := NR.rf (τ0 := τ0) tb hF
  obtain ⟨kt0, kr0⟩ := h.kn (i := 0) (by omega) (by omega)
  obtain ⟨kt1, kr1⟩ := h.kn (i := 1) (by omega) (by omega)
  obtain ⟨⟨kg0a, kg0b⟩, ⟨kc0a, kc0b⟩, -, ⟨kw0a, kw0b⟩, -⟩ := kr0
  obtain ⟨⟨kg1a, kg1b⟩, ⟨kc1a, kc1b⟩, -, ⟨kw1a, kw1b⟩, -⟩ := kr1
  have kc0 : CB τ0 d (kd τ0 p 0) c := hC.same kw0a n7 (by omega) (by omega)
  have kc1 : CB τ0 d (kd τ0 p 1) c := hC.same kw1a n8 (by omega) (by omega)
  have gd0 := row_good d (kd τ0 p 0) c kt0
  have gd1 := row_good d (kd τ0 p 1) c kt1
  have gl0 := gd0.1
  have gl1 := gd1.1
  have kid0 := gd0.kid kg0a n2 g1 n5
  have kid1 := gd1.kid kg1a n3 g1 n6
  have fo : ∀ l : List Evt, l.filter (fun x => decide ((if P x then 1 else 0 : Int) = 0)) = l.filter (fun e => !P e) := fun l => by
    congr 1
    funext x
    cases P x <;> rfl
  have fi : ∀ l : List Evt, l.filter (fun x => decide ((if P x then 1 else 0 : Int) = 1)) = l.filter P := fun l => by
    congr 1
    funext x
    cases P x <;> rfl
  obtain ⟨τ1, κ, τ2, q1, q2, q3, q4, q5, q6, q7, -⟩ := first_kid h tb hF (i := 0) (c' := c) (by omega) (by omega) kc0 (by omega) n7 hA
  have s1 : r_step N τ k = some τ1 := by
    obtain ⟨-, st⟩ := r_step_k h hA
    rw [st (r_windows N τ k p c) (Or.inr (Or.inr (Or.inr (Or.inr (Or.inr (Or.inr (Or.inr (Or.inl ⟨hK, rfl⟩)))))))), r_windows, grd_t (by exact ⟨by omega, by omega⟩), hF.2.2.2.1, grd_t (by decide), if_pos rfl, q1, Option.bind_some, fin1]
  refine GO.call h hA s1 q3 q2 ?_
  -- the first window
  have dp0 := dv_pos n2 kg0a g1
  have dm0 := dv_mul n2
  have dp1 := dv_pos n3 kg1a g1
  have dm1 := dv_mul n3
  obtain ⟨τ3, y1, y2, y3⟩ := q4.mv0 h (by rw [ab_len]; omega) (gr τ0 p / gr τ0 (kd τ0 p 0)) 0
  rw [ab_mv (b' := 0) (o' := c * gr τ0 p) _ (by rw [Int.mul_assoc, Int.mul_comm (gr τ0 (kd τ0 p 0)), dm0])] at y2
  obtain ⟨τ4, w1, w2, w3⟩ := hW τ3 (fl τ 84 0) _ [] 0 (Or.inl rfl) (by rw [List.nil_append]; exact y2) (by rw [y3 38 (by decide)]; simpa using q5) (by rw [y2.2.2.2.2.2.2.1, ab_len, mv_len]; omega) (fun x hx => by
    have := (kid0.1 x hx).1
    omega)
  rw [List.nil_append, fo] at w2
  have l0 := flt_len (fun e => !P e) (mv (gr τ0 p / gr τ0 (kd τ0 p 0)) 0 (rowL τ0 d (kd τ0 p 0) c))
  rw [mv_len] at l0
  have pm := phi_mono n8 wp2
  obtain ⟨τ5, κ2, τ6, r1, r2, r3, r4, r5, r6, r7, -⟩ := w2.kid h (i := 1) (c' := c) (by omega) (by omega) kc1 (by rw [ab_len]; omega)
  rw [ab_len] at r5
  have wd : r_windows N τ2 k p c = some (τ5, 1) := by
    rw [r_windows, grd_t (by exact ⟨by omega, by omega⟩), q6, grd_t (by decide), if_neg (by decide), grd_t (by exact ⟨by omega, by omega⟩), q4.t 63 _ (by decide), show el τ0 63 p = gr τ0 p from rfl, grd_t (by exact ⟨by omega, by omega⟩), q4.grn h q7 (by omega) (by omega), Option.bind_some, grd_t (by exact ⟨by omega, by omega⟩), grd_t (by exact ⟨by omega, by omega⟩), grd_t (by omega), td_pos (by omega), q5, y1, Option.bind_some]
    have e37 : el τ3 37 k = 0 := by rw [y3 37 (by decide)]; exact q7
    have e37' : el τ4 37 k = 0 := by rw [w3 37 (by decide)]; exact e37
    rw [e37, grd_t (by decide), if_neg (by decide), r_windows_61, w1, Option.bind_some, grd_t (by exact ⟨by omega, by omega⟩), e37', grd_t (by decide), if_pos rfl, r1, Option.bind_some]
  have s2 : r_step N τ2 k = some τ5 := by
    obtain ⟨-, st⟩ := r_step_k h q4
    rw [st (r_windows N τ2 k p c) (Or.inr (Or.inr (Or.inr (Or.inr (Or.inr (Or.inr (Or.inr (Or.inl ⟨hK, rfl⟩)))))))), wd, fin1]
  refine GO.call h q4 s2 r3 r2 ?_
  -- the second window
  obtain ⟨τ7, v1, v2, v3⟩ := NR.mvd h r4 (by rw [ab_len, ab_len]; omega) (gr τ0 p / gr τ0 (kd τ0 p 1)) 0
  rw [ab_mv (b' := 0) (o' := c * gr τ0 p) _ (by rw [Int.mul_assoc, Int.mul_comm (gr τ0 (kd τ0 p 1)), dm1])] at v2
  rw [ab_len] at v1
  obtain ⟨τ8, x1, x2, x3⟩ := hW τ7 (fl τ 84 0) _ _ 1 (Or.inr rfl) v2 (by rw [v3 38 (by decide), r5, ab_len]) (by rw [v2.2.2.2.2.2.2.1, List.length_append, ab_len, ab_len, mv_len]; omega) (fun x hx => by
    have := (kid1.1 x hx).1
    omega)
  rw [fi, ← ab_app] at x2
  have l1 := flt_len P (mv (gr τ0 p / gr τ0 (kd τ0 p 1)) 0 (rowL τ0 d (kd τ0 p 1) c))
  rw [mv_len] at l1
  have e39 : el τ8 39 k = fl τ 84 0 := x2.2.2.2.2.1
  obtain ⟨τ9, u1, u2, u3, u4⟩ := r_sort' (N := N) (τ := τ8) (m := fl τ 84 0) (by omega) e0 x2.2.2.2.2.2.2.2 (fun x hx => by
    obtain ⟨y, hy, rfl⟩ := List.mem_map.1 hx
    have gu := ((kid0.1.flt (fun e => !P e)).app (kid1.1.flt P)) y hy
    show i64 (y.1 + c * gr τ0 p)
    have := gu.1
    exact ⟨by omega, by omega⟩) (by rw [x2.2.2.2.2.2.2.1]) (by rw [x2.2.2.2.2.2.2.1, ab_len, List.length_append]; omega)
  have wd2 : r_windows N τ6 k p c = some (τ9, 0) := by
    rw [r_windows, grd_t (by exact ⟨by omega, by omega⟩), r6, grd_t (by decide), if_neg (by decide), grd_t (by exact ⟨by omega, by omega⟩), r4.t 63 _ (by decide), show el τ0 63 p = gr τ0 p from rfl, grd_t (by exact ⟨by omega, by omega⟩), r4.grn h r7 (by omega) (by omega), Option.bind_some, grd_t (by exact ⟨by omega, by omega⟩), grd_t (by exact ⟨by omega, by omega⟩), grd_t (by omega), td_pos (by omega), r5, v1, Option.bind_some]
    have e37 : el τ7 37 k = 1 := by rw [v3 37 (by decide)]; exact r7
    have e37' : el τ8 37 k = 1 := by rw [x3 37 (by decide)]; exact e37
    rw [e37, grd_t (by decide), if_pos rfl, r_windows_61, x1, Option.bind_some, grd_t (by exact ⟨by omega, by omega⟩), e37', grd_t (by decide), if_neg (by decide), e39, u1, Option.bind_some]
  refine GO.done h r4 (τ1 := τ9) ?_ ?_
  · obtain ⟨-, st⟩ := r_step_k h r4
    rw [st (r_windows N τ6 k p c) (Or.inr (Or.inr (Or.inr (Or.inr (Or.inr (Or.inr (Or.inr (Or.inl ⟨hK, rfl⟩)))))))), wd2, fin0]
  · rw [← ab_sort]
    have := NR.ev (A := []) (M := sortE (ab (c * gr τ0 p) ((mv (gr τ0 p / gr τ0 (kd τ0 p 0)) 0 (rowL τ0 d (kd τ0 p 0) c)).filter (fun e => !P e) ++ (mv (gr τ0 p / gr τ0 (kd τ0 p 1)) 0 (rowL τ0 d (kd τ0 p 1) c)).filter P))) (τ' := τ9) x2 (by simp only [List.length_nil]; rw [show fl τ 84 0 + ((0 : Nat) : Int) = fl τ 84 0 by omega]; exact u2) (by
      simp only [List.length_nil]
      rw [u3, x2.2.2.2.2.2.2.1]
      show _ = _ + ((isoL ltE _).length : Int)
      rw [isoL_len]
      omega) (by simp only [List.length_nil]; rw [show fl τ 84 0 + ((0 : Nat) : Int) = fl τ 84 0 by omega]; exact u4)
    exact this
/-- what r_window does, from its loop -/
theorem r_window_nr {τ τ2 : St} (h : PR2 N τ0 d k p c (fl τ 84 0)) {x5 x8 : Int} {P : Evt → Bool} (hx5 : x5 = 0 ∨ x5 = 1) (hst : ∀ (n : Nat) (τ : St) (y : Evt) (i to : Int), TB τ0 τ → el τ 52 i = y.1 + c * gr τ0 p → 0 ≤ y.1 → y.1 ≤ 1000000 → 0 ≤ i → i < fl τ 84 0 → fl τ 84 0 ≤ 29999 → r_window_53 N (n + 1) τ p c x5 (gr τ0 p) x8 to i = r_window_188 N (r_window_53 N n) τ p c x5 (gr τ0 p) x8 to i (if P y then 1 else 0)) {Pl B : List Evt} (hA : NR τ0 τ k p c (fl τ 84 0) (B ++ ab (c * gr τ0 p) Pl) τ2) (h38 : el τ2 38 k = fl τ 84 0 + B.length) (h6 : fl τ2 84 0 ≤ 29999) (hb : ∀ x ∈ Pl, 0 ≤ x.1 ∧ x.1 ≤ 1000000) : ∃ τ3, r_window_35 N τ2 k p c x5 (gr τ0 p) x8 = some τ3 ∧ NR τ0 τ k p c (fl τ 84 0) (B ++ ab (c * gr τ0 p) (Pl.filter (fun x => decide ((if P x then 1 else 0 : Int) = x5)))) τ3 ∧ ∀ a, a < 43 → el τ3 a k = el τ2 a k := by
  obtain ⟨hHR, hT, hC, k0, k1, e0, e1, hN⟩ := id h
  obtain ⟨-, -, -, -, -, -, a7, a8⟩ := id hA
  rw [List.length_append, ab_len] at a7
  obtain ⟨lm, u1, u2⟩ := RE.rm a8.rt
  have ll : lm.length = Pl.length := by rw [← List.length_map (f := Prod.fst), u2, ab_len]
  obtain ⟨τ3, z1, z2, z3, z4⟩ := r_window_lp (N := N) h hx5 hst lm N τ2 [] (fl τ 84 0 + B.length) (fl τ 84 0 + B.length) Pl (by omega) hA.1 (by omega) trivial u1 u2 hb (by simp) (by omega) h6
  simp only [List.length_nil, List.map_nil, List.nil_append] at z1 z3 z4
  rw [show fl τ 84 0 + (B.length : Int) + ((0 : Nat) : Int) = fl τ 84 0 + B.length by omega] at z1
  refine ⟨τ3, ?_, hA.ev z2 (by rw [z3, ab_len]; omega) z4, fun a ha => z2.2.1 a k (Or.inl ha)⟩
  rw [r_window_35, grd_t (by exact ⟨by omega, by omega⟩), bnd, bnd, h38]
  exact z1
theorem rk_15 {τ : St} (h : PR2 N τ0 d k p c (fl τ 84 0)) (tb : TB τ0 τ) (hF : FRM τ k p c) (hK : el τ0 70 p = 15) (hn : NK15 τ0 p) (ha : 1 ≤ el τ0 69 p ∧ el τ0 69 p ≤ 1000) : GO N τ k (fl τ 84 0) (ab (c * gr τ0 p) (rowK τ0 (rowL τ0 d) p c)) τ (1 + (sbd d + 1) + (sbd d + 1)) := by
  obtain ⟨hHR, hT, hC, k0, k1, e0, e1, hN⟩ := id h
  obtain ⟨⟨g1, g2⟩, -⟩ := hT.2.1
  have pp := hT.pos
  have cb := hC.abs hT.2.1
  have m0 := Int.emod_nonneg c (show el τ0 69 p ≠ 0 by omega)
  have m1 := Int.emod_lt_of_pos c (show 0 < el τ0 69 p by omega)
  have u0 := Int.mul_nonneg m0 (show 0 ≤ gr τ0 p by omega)
  have u1 : c % el τ0 69 p * gr τ0 p ≤ 1000 * gr τ0 p := Int.mul_le_mul_of_nonneg_right (by omega) (by omega)
  have u2 : (c % el τ0 69 p + 1) * gr τ0 p = c % el τ0 69 p * gr τ0 p + gr τ0 p := by rw [Int.add_mul]; omega
  have er : rowK τ0 (rowL τ0 d) p c = sortE ((mv (gr τ0 p / gr τ0 (kd τ0 p 0)) 0 (rowL τ0 d (kd τ0 p 0) c)).filter (fun e => !decide (c % el τ0 69 p * gr τ0 p ≤ e.1 * el τ0 69 p ∧ e.1 * el τ0 69 p < (c % el τ0 69 p + 1) * gr τ0 p)) ++ (mv (gr τ0 p / gr τ0 (kd τ0 p 1)) 0 (rowL τ0 d (kd τ0 p 1) c)).filter (fun e => decide (c % el τ0 69 p * gr τ0 p ≤ e.1 * el τ0 69 p ∧ e.1 * el τ0 69 p < (c % el τ0 69 p + 1) * gr τ0 p))) := by
    unfold rowK
    simp only [hK]
    rfl
  rw [er]
  refine rk_win h tb hF (Or.inl hK) hn (fun τ2 m Pl B x5 hx5 hA h38 h6 hb => ?_)
  obtain ⟨τ3, z1, z2⟩ := r_window_nr (x8 := c % el τ0 69 p) (P := fun e => decide (c % el τ0 69 p * gr τ0 p ≤ e.1 * el τ0 69 p ∧ e.1 * el τ0 69 p < (c % el τ0 69 p + 1) * gr τ0 p)) h hx5 (fun n τ y i to tb' e52 y0 y1 i0 i1 i2 => by
    have v0 := Int.mul_nonneg y0 (show 0 ≤ el τ0 69 p by omega)
    have v1 : y.1 * el τ0 69 p ≤ 1000000 * 1000 := Int.mul_le_mul y1 ha.2 (by omega) (by omega)
    rw [r_window_53, grd_t (by exact ⟨by omega, by omega⟩), grd_t (by exact ⟨by omega, by omega⟩), if_pos i1, grd_t (by exact ⟨by omega, by omega⟩), bnd, e52, show y.1 + c * gr τ0 p - c * gr τ0 p = y.1 by omega, grd_t (by exact ⟨by omega, by omega⟩), tb'.1 70 _ (by decide), hK, grd_t (by decide), if_pos rfl, tb'.1 69 _ (by decide), grd_t (by exact ⟨by omega, by omega⟩), grd_t (by exact ⟨by omega, by omega⟩), grd_t (by exact ⟨by omega, by omega⟩)]
    by_cases c1 : y.1 * el τ0 69 p < c % el τ0 69 p * gr τ0 p
    · rw [if_pos c1, if_neg (by rw [decide_eq_true_iff]; omega)]; rfl
    · rw [if_neg c1, grd_t (by exact ⟨by omega, by omega⟩)]
      by_cases c2 : y.1 * el τ0 69 p < (c % el τ0 69 p + 1) * gr τ0 p
      · rw [if_pos c2, if_pos (decide_eq_true ⟨by omega, c2⟩)]
      · rw [if_neg c2, if_neg (by rw [decide_eq_true_iff]; omega)]; rfl) hA h38 h6 hb
  refine ⟨τ3, ?_, z2⟩
  rw [r_window, grd_t (by exact ⟨by omega, by omega⟩), hA.t 63 _ (by decide), show el τ0 63 p = gr τ0 p from rfl, grd_t (by exact ⟨by omega, by omega⟩), bnd, hA.t 70 _ (by decide), hK, grd_t (by decide), if_pos rfl, hA.t 69 _ (by decide), grd_t (by exact ⟨by omega, by omega⟩), r_mod' ⟨by omega, by omega⟩ ⟨by omega, by omega⟩ (by omega), Option.bind_some]
  exact z1
theorem rk_16 {τ : St} (h : PR2 N τ0 d k p c (fl τ 84 0)) (tb : TB τ0 τ) (hF : FRM τ k p c) (hK : el τ0 70 p = 16) (hn : NK15 τ0 p) (ha : 0 ≤ el τ0 69 p ∧ el τ0 69 p ≤ 64) (hb : 1 ≤ el τ0 68 p ∧ el τ0 68 p ≤ 64) (hc : 0 ≤ el τ0 67 p ∧ el τ0 67 p ≤ 64) (hd : 1 ≤ el τ0 66 p ∧ el τ0 66 p ≤ 64) : GO N τ k (fl τ 84 0) (ab (c * gr τ0 p) (rowK τ0 (rowL τ0 d) p c)) τ (1 + (sbd d + 1) + (sbd d + 1)) := by
  obtain ⟨hHR, hT, hC, k0, k1, e0, e1, hN⟩ := id h
  obtain ⟨⟨g1, g2⟩, -⟩ := hT.2.1
  have pp := hT.pos
  have cb := hC.abs hT.2.1
  have u0 := Int.mul_nonneg ha.1 (show 0 ≤ gr τ0 p by omega)
  have u1 : el τ0 69 p * gr τ0 p ≤ 64 * gr τ0 p := Int.mul_le_mul_of_nonneg_right ha.2 (by omega)
  have w0 := Int.mul_nonneg hc.1 (show 0 ≤ gr τ0 p by omega)
  have w1 : el τ0 67 p * gr τ0 p ≤ 64 * gr τ0 p := Int.mul_le_mul_of_nonneg_right hc.2 (by omega)
  have er : rowK τ0 (rowL τ0 d) p c = sortE ((mv (gr τ0 p / gr τ0 (kd τ0 p 0)) 0 (rowL τ0 d (kd τ0 p 0) c)).filter (fun e => !decide (el τ0 69 p * gr τ0 p ≤ e.1 * el τ0 68 p ∧ e.1 * el τ0 66 p < el τ0 67 p * gr τ0 p)) ++ (mv (gr τ0 p / gr τ0 (kd τ0 p 1)) 0 (rowL τ0 d (kd τ0 p 1) c)).filter (fun e => decide (el τ0 69 p * gr τ0 p ≤ e.1 * el τ0 68 p ∧ e.1 * el τ0 66 p < el τ0 67 p * gr τ0 p))) := by
    unfold rowK
    simp only [hK]
    rfl
  rw [er]
  refine rk_win h tb hF (Or.inr hK) hn (fun τ2 m Pl B x5 hx5 hA h38 h6 hb' => ?_)
  obtain ⟨τ3, z1, z2⟩ := r_window_nr (x8 := 0) (P := fun e => decide (el τ0 69 p * gr τ0 p ≤ e.1 * el τ0 68 p ∧ e.1 * el τ0 66 p < el τ0 67 p * gr τ0 p)) h hx5 (fun n τ y i to tb' e52 y0 y1 i0 i1 i2 => by
    have v0 := Int.mul_nonneg y0 (show 0 ≤ el τ0 68 p by omega)
    have v1 : y.1 * el τ0 68 p ≤ 1000000 * 64 := Int.mul_le_mul y1 hb.2 (by omega) (by omega)
    have v2 := Int.mul_nonneg y0 (show 0 ≤ el τ0 66 p by omega)
    have v3 : y.1 * el τ0 66 p ≤ 1000000 * 64 := Int.mul_le_mul y1 hd.2 (by omega) (by omega)
    rw [r_window_53, grd_t (by exact ⟨by omega, by omega⟩), grd_t (by exact ⟨by omega, by omega⟩), if_pos i1, grd_t (by exact ⟨by omega, by omega⟩), bnd, e52, show y.1 + c * gr τ0 p - c * gr τ0 p = y.1 by omega, grd_t (by exact ⟨by omega, by omega⟩), tb'.1 70 _ (by decide), hK, grd_t (by decide), if_neg (by decide), tb'.1 68 _ (by decide), grd_t (by exact ⟨by omega, by omega⟩), tb'.1 69 _ (by decide), grd_t (by exact ⟨by omega, by omega⟩), grd_t (by exact ⟨by omega, by omega⟩), grd_t (by exact ⟨by omega, by omega⟩)]
    by_cases c1 : y.1 * el τ0 68 p < el τ0 69 p * gr τ0 p
    · rw [if_pos c1, if_neg (by rw [decide_eq_true_iff]; omega)]; rfl
    · rw [if_neg c1, tb'.1 66 _ (by decide), grd_t (by exact ⟨by omega, by omega⟩), tb'.1 67 _ (by decide), grd_t (by exact ⟨by omega, by omega⟩), grd_t (by exact ⟨by omega, by omega⟩), grd_t (by exact ⟨by omega, by omega⟩)]
      by_cases c2 : y.1 * el τ0 66 p < el τ0 67 p * gr τ0 p
      · rw [if_pos c2, if_pos (decide_eq_true ⟨by omega, c2⟩)]
      · rw [if_neg c2, if_neg (by rw [decide_eq_true_iff]; omega)]; rfl) hA h38 h6 hb'
  refine ⟨τ3, ?_, z2⟩
  rw [r_window, grd_t (by exact ⟨by omega, by omega⟩), hA.t 63 _ (by decide), show el τ0 63 p = gr τ0 p from rfl, grd_t (by exact ⟨by omega, by omega⟩), bnd, hA.t 70 _ (by decide), hK, grd_t (by decide), if_neg (by decide)]
  exact z1
end RX
