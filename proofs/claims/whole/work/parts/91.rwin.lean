/-! rows of the reference: backwards, rotated, drawn, windows -/
section RW1
variable {N : Nat} {τ0 : St} {d : Nat} {k p c : Int}
/-- after a change of the events behind what is there, and of the arrays of turns -/
theorem NR.ev2 {τs τ τ' : St} {e : Int} {A L M : List Evt} (hA : NR τ0 τs k p c e (A ++ L) τ) (h1 : ∀ f i, f ≠ 84 → fl τ' f i = fl τ f i) (h2 : ∀ a j, a < 29 ∨ (33 ≤ a ∧ a ≤ 42) ∨ 52 < a → el τ' a j = el τ a j) (h3 : ∀ a j, 43 ≤ a → a ≤ 52 → j < e + A.length → el τ' a j = el τ a j) (hT : fl τ' 84 0 = e + A.length + M.length) (hM : At (RE τ') (e + A.length) M) : NR τ0 τs k p c e (A ++ M) τ' := by
  obtain ⟨a1, a2, a3, a4, a5, a6, a7, a8⟩ := hA
  have rq : RQ (e + A.length) k τ τ' := ⟨fun f i x _ => h1 f i x, fun a j ha => h2 a j (by omega), fun a j x y _ => h2 a j (by omega), h3⟩
  refine ⟨rq.tb a1, (h1 96 0 (by decide)).trans a2, (h2 42 k (by omega)).trans a3, (h2 41 k (by omega)).trans a4, (h2 39 k (by omega)).trans a5, a6.tr rq (by omega) (Int.le_refl _), by rw [hT, List.length_append]; omega, At.app (rq.at a8.l (Int.le_refl _)) hM⟩
theorem r_rev_lp {e G : Int} {c : Int} (h0 : 0 ≤ e) (hk : 0 ≤ k ∧ k < 70) (hcG : -20000000000000000 ≤ c * G ∧ c * G ≤ 20000000000000000) (hG : 0 ≤ G ∧ G ≤ 1000000) : ∀ (l : List Evt) (n : Nat) (τ : St) (K : List Evt), l.length < n → At (RE τ) e K → At (RE τ) (e + K.length) (ab (c * G) l) → fl τ 84 0 = e + (K.length + l.length) → fl τ 84 0 ≤ 29999 → (∀ x ∈ l, 0 ≤ x.1 ∧ x.1 ≤ 1000000000 ∧ 0 ≤ x.2.1 ∧ x.2.1 ≤ 1000000000) → ∃ τ', r_single_184 N n τ k c G (e + K.length) = (grd (inb k 70) (Option.bind (r_sort N τ' (el τ' 38 k)) (fun r118 => some (r118, 0)))) ∧ RP e τ τ' ∧ fl τ' 84 0 = fl τ 84 0 ∧ At (RE τ') e (K ++ ab (c * G) (revL G l))
  | [], n + 1, τ, K, _, hK, _, hT, h6, _ => by
    simp only [List.length_nil] at hT
    refine ⟨τ, ?_, RP.rf _ _, rfl, by show At (RE τ) e (K ++ []); rw [List.append_nil]; exact hK⟩
    rw [r_single_184, grd_t (by exact ⟨by omega, by omega⟩), grd_t (by exact ⟨by omega, by omega⟩), if_neg (by omega)]
  | x :: l, n + 1, τ, K, hn, hK, ha, hT, h6, hb => by
    simp only [List.length_cons] at hT hn
    obtain ⟨b1, b2, b3, b4⟩ := hb x (by simp)
    obtain ⟨⟨e1, e2, e3⟩, ha2⟩ := ha
    simp only at e1 e2 e3
    have cG1 : (c + 1) * G = c * G + G := by rw [Int.add_mul]; omega
    have cG2 : (2 * c + 1) * G = 2 * (c * G) + G := by rw [Int.add_mul, Int.mul_assoc]; omega
    have kk : (K.length : Int) + 1 = ((K ++ [((G - min G (x.1 + x.2.1) + c * G, G - min G (x.1 + x.2.1) + (min G (x.1 + x.2.1) - x.1) + c * G, x.2.2) : Evt)]).length : Int) := by simp only [List.length_append, List.length_cons, List.length_nil]; omega
    have hfr : ∀ (v w : Int) a j, (a ≠ 52 ∧ a ≠ 51) ∨ j ≠ e + K.length → el (se (se τ 52 (e + K.length) v) 51 (e + K.length) w) a j = el τ a j := fun v w a j hj => by
      simp only [el_se]
      rw [if_neg (by omega), if_neg (by omega)]
    obtain ⟨τ', z1, z2, z3, z4⟩ := r_rev_lp h0 hk hcG hG l n (se (se τ 52 (e + K.length) (G - min G (x.1 + x.2.1) + c * G)) 51 (e + K.length) (G - min G (x.1 + x.2.1) + (min G (x.1 + x.2.1) - x.1) + c * G)) (K ++ [(G - min G (x.1 + x.2.1) + c * G, G - min G (x.1 + x.2.1) + (min G (x.1 + x.2.1) - x.1) + c * G, x.2.2)]) (by omega) (At.snoc (RE.of (fun b j j1 j2 => hfr _ _ b j (by omega)) hK) (by
        unfold RE
        simp only [el_se]
        exact ⟨rfl, rfl, e3⟩)) (by
        rw [← kk, show e + ((K.length : Int) + 1) = e + K.length + 1 by omega]
        exact RE.of (fun b j j1 j2 => hfr _ _ b j (by omega)) ha2) (by show fl τ 84 0 = _; rw [← kk]; omega) h6 (fun y hy => hb y (by simp [hy]))
    refine ⟨τ', ?_, RP.tr (m' := e) (τ1 := se (se τ 52 (e + K.length) (G - min G (x.1 + x.2.1) + c * G)) 51 (e + K.length) (G - min G (x.1 + x.2.1) + (min G (x.1 + x.2.1) - x.1) + c * G)) ⟨fun _ _ _ => rfl, fun a j ha => hfr _ _ a j (by omega), fun a j hj => hfr _ _ a j (by omega)⟩ z2 (Int.le_refl _), z3, ?_⟩
    · rw [← kk, show e + ((K.length : Int) + 1) = e + K.length + 1 by omega] at z1
      rw [← z1, r_single_184, grd_t (by exact ⟨by omega, by omega⟩), grd_t (by exact ⟨by omega, by omega⟩), if_pos (by omega), grd_t (by exact ⟨by omega, by omega⟩), bnd, e1, e2, grd_t (by exact ⟨by omega, by omega⟩), cG1, grd_t (by exact ⟨by omega, by omega⟩)]
      by_cases c1 : x.1 + x.2.1 + c * G < c * G + G
      · rw [if_pos c1, r_single_235, grd_t (by exact ⟨by omega, by omega⟩), cG2, show 2 * (c * G) + G - (x.1 + x.2.1 + c * G) = G - min G (x.1 + x.2.1) + c * G by omega, show 2 * (c * G) + G - (x.1 + c * G) = G - min G (x.1 + x.2.1) + (min G (x.1 + x.2.1) - x.1) + c * G by omega]
      · rw [if_neg c1, r_single_235, grd_t (by exact ⟨by omega, by omega⟩), cG2, show 2 * (c * G) + G - (c * G + G) = G - min G (x.1 + x.2.1) + c * G by omega, show 2 * (c * G) + G - (x.1 + c * G) = G - min G (x.1 + x.2.1) + (min G (x.1 + x.2.1) - x.1) + c * G by omega]
    · rw [List.append_assoc] at z4
      exact z4
theorem rk_12 {τ : St} (h : PR2 N τ0 d k p c (fl τ 84 0)) (tb : TB τ0 τ) (hF : FRM τ k p c) (hK : el τ0 70 p = 12) (hn : NK12 τ0 p) : GO N τ k (fl τ 84 0) (ab (c * gr τ0 p) (rowK τ0 (rowL τ0 d) p c)) τ (1 + (sbd d + 1)) := by
  obtain ⟨n1, n2, n3, n4⟩ := hn
  obtain ⟨hHR, hT, hC, k0, k1, e0, e1, hN⟩ := id h
  obtain ⟨⟨g1, g2⟩, ⟨cp1, cp2⟩, -, ⟨wp1, wp2⟩, -⟩ := hT.2.1
  have pp := hT.pos
  have cb := hC.abs hT.2.1
  obtain ⟨τ1, κ, τ2, q1, q2, q3, q4, q5, q6, q7⟩ := single_first h tb hF (i := 0) (Or.inl rfl) (by omega) n3 n4 (by omega) (r_single_0 h tb hF ⟨by omega, by omega⟩)
  refine GO.call h (NR.rf (τ0 := τ0) tb hF) q1 q3 q2 ?_
  obtain ⟨kt, kr⟩ := h.kn (i := 0) (by omega) (by omega)
  have gd := row_good d (kd τ0 p 0) c kt
  have gl := gd.1
  have ph := phi_lo (show 0 ≤ wk τ0 p by omega)
  have rl : rc τ0 (kd τ0 p 0) * gr τ0 (kd τ0 p 0) ≤ 64 * gr τ0 (kd τ0 p 0) := Int.mul_le_mul_of_nonneg_right kr.2.2.1.2 (by have := kr.1.1; omega)
  obtain ⟨-, -, -, -, -, -, a7, a8⟩ := id q4
  rw [ab_len] at a7
  rw [n2] at a8
  have ub : ∀ x ∈ rowL τ0 d (kd τ0 p 0) c, 0 ≤ x.1 ∧ x.1 ≤ 1000000000 ∧ 0 ≤ x.2.1 ∧ x.2.1 ≤ 1000000000 := fun x hx => by
    obtain ⟨⟨u1, u2⟩, ⟨u3, u4⟩, -⟩ := gd.2.1 x hx
    omega
  obtain ⟨τ3, z1, z2, z3, z4⟩ := r_rev_lp (N := N) (k := k) (e := fl τ 84 0) (G := gr τ0 p) (c := c) e0 ⟨k0, by omega⟩ ⟨by omega, by omega⟩ ⟨by omega, g2⟩ (rowL τ0 d (kd τ0 p 0) c) N τ2 [] (by omega) trivial (by simp only [List.length_nil]; rw [show fl τ 84 0 + ((0 : Nat) : Int) = fl τ 84 0 by omega]; exact a8) (by rw [a7]; simp) (by rw [a7]; omega) ub
  simp only [List.length_nil, List.nil_append] at z1 z4
  rw [show fl τ 84 0 + ((0 : Nat) : Int) = fl τ 84 0 by omega] at z1
  have rvl : (revL (gr τ0 p) (rowL τ0 d (kd τ0 p 0) c)).length = (rowL τ0 d (kd τ0 p 0) c).length := List.length_map _
  obtain ⟨τ4, y1, y2, y3, y4⟩ := r_sort' (N := N) (τ := τ3) (by omega) e0 z4 (fun x hx => by
    obtain ⟨y, hy, rfl⟩ := List.mem_map.1 hx
    obtain ⟨w, hw, rfl⟩ := List.mem_map.1 hy
    obtain ⟨u1, u2, u3, u4⟩ := ub w hw
    show i64 (gr τ0 p - min (gr τ0 p) (w.1 + w.2.1) + c * gr τ0 p)
    exact ⟨by omega, by omega⟩) (by rw [z3, a7, ab_len, rvl]) (by rw [z3, a7]; omega)
  have e38 : el τ3 38 k = fl τ 84 0 := by rw [z2.2.1 38 k (by decide)]; exact q5
  refine GO.done h q4 (τ1 := τ4) ?_ ?_
  · obtain ⟨-, st⟩ := r_step_k h q4
    rw [st (r_single N τ2 k p c) (Or.inr (Or.inr (Or.inr (Or.inr (Or.inr (Or.inr (Or.inl ⟨by omega, rfl⟩)))))))]
    have : r_single N τ2 k p c = some (τ4, 0) := by
      rw [r_single, grd_t (by exact ⟨by omega, by omega⟩), q6, grd_t (by decide), if_neg (by decide), grd_t (by exact ⟨by omega, by omega⟩), q4.t 63 _ (by decide), show el τ0 63 p = gr τ0 p from rfl, grd_t (by exact ⟨by omega, by omega⟩), bnd, q4.t 70 _ (by decide), hK, grd_t (by decide)]
      show bnd (el τ2 38 k) (fun v10 => r_single_184 N N τ2 k c (gr τ0 p) v10) = _
      rw [bnd, q5, z1, grd_t (by exact ⟨by omega, by omega⟩), e38, y1, Option.bind_some]
    rw [this, fin0]
  · have er : rowK τ0 (rowL τ0 d) p c = sortE (revL (gr τ0 p) (rowL τ0 d (kd τ0 p 0) c)) := by
      unfold rowK
      simp only [hK]
      rfl
    rw [er, ← ab_sort]
    have := NR.ev (A := []) (L := ab (c * gr τ0 (kd τ0 p 0)) (rowL τ0 d (kd τ0 p 0) c)) (M := sortE (ab (c * gr τ0 p) (revL (gr τ0 p) (rowL τ0 d (kd τ0 p 0) c)))) (τ' := τ4) q4 (by simp only [List.length_nil]; rw [show fl τ 84 0 + ((0 : Nat) : Int) = fl τ 84 0 by omega]; exact z2.tr y2 (Int.le_refl _)) (by
      simp only [List.length_nil]
      rw [y3, z3, a7]
      show _ = _ + ((isoL ltE _).length : Int)
      rw [isoL_len, ab_len, rvl]
      omega) (by simp only [List.length_nil]; rw [show fl τ 84 0 + ((0 : Nat) : Int) = fl τ 84 0 by omega]; exact y4)
    exact this
/-- draws -/
theorem r_draw_lp {τs : St} {e : Int} (h : PR2 N τ0 d k p c e) (hK : el τ0 70 p = 21 ∨ el τ0 70 p = 22) (ha : 0 ≤ el τ0 69 p ∧ el τ0 69 p ≤ 1000) : ∀ (l : List (Evt × Vl)) (n : Nat) (τ : St) (K : List (Evt × Vl)) (i : Int) (Pl : List Evt), l.length < n → TB τ0 τ → At (RM τ) e K → At (RM τ) i l → l.map Prod.fst = ab (c * gr τ0 p) Pl → (∀ x ∈ Pl, 0 ≤ x.1 ∧ x.1 < 1000000000) → e + K.length ≤ i → i + l.length = fl τ 84 0 → fl τ 84 0 ≤ 29999 → ∃ τ', r_draw_16 N n τ p c (e + K.length) i = some τ' ∧ RP e τ τ' ∧ fl τ' 84 0 = e + K.length + (Pl.filter (fun x => decide (decide (dice (fl τ0 95 0) c x.1 (gr τ0 p) (1000003 * el τ0 68 p) < el τ0 69 p) = decide (el τ0 70 p = 22)))).length ∧ At (RE τ') e (K.map Prod.fst ++ ab (c * gr τ0 p) (Pl.filter (fun x => decide (decide (dice (fl τ0 95 0) c x.1 (gr τ0 p) (1000003 * el τ0 68 p) < el τ0 69 p) = decide (el τ0 70 p = 22)))))
  | [], n + 1, τ, K, i, Pl, _, tb, hA, _, hPl, _, hi, h1, h2 => by
    obtain ⟨hHR, hT, hC, k0, k1, e0, e1, hN⟩ := id h
    have : Pl = [] := by
      cases Pl with
      | nil => rfl
      | cons x l => simp [ab] at hPl
    subst this
    simp only [List.length_nil] at h1
    refine ⟨sf τ 84 0 (e + K.length), ?_, ⟨fun f j hf => fl_sfn _ _ _ _ hf, fun _ _ _ => rfl, fun _ _ _ => rfl⟩, by rw [fl_sfs]; simp, ?_⟩
    · rw [r_draw_16, grd_t (by exact ⟨by omega, by omega⟩), grd_t (by exact ⟨by omega, by omega⟩), if_neg (by omega)]
    · show At (RE τ) e (K.map Prod.fst ++ [])
      rw [List.append_nil]
      exact RM.re hA
  | x :: l, n + 1, τ, K, i, [], _, _, _, _, hPl, _, _, _, _ => by simp [ab] at hPl
  | x :: l, n + 1, τ, K, i, y :: Pl, hn, tb, hA, hl, hPl, hb, hi, h1, h2 => by
    obtain ⟨hHR, hT, hC, k0, k1, e0, e1, hN⟩ := id h
    obtain ⟨⟨g1, g2⟩, -⟩ := hT.2.1
    have pp := hT.pos
    have cb := hC.abs hT.2.1
    simp only [List.length_cons] at h1 hn
    obtain ⟨b1, b2⟩ := hb y (by simp)
    have hx : x.1 = (y.1 + c * gr τ0 p, y.1 + y.2.1 + c * gr τ0 p, y.2.2) ∧ l.map Prod.fst = ab (c * gr τ0 p) Pl := by
      unfold ab at hPl
      rw [List.map_cons, List.map_cons] at hPl
      injection hPl with u1 u2
      exact ⟨u1, u2⟩
    obtain ⟨ax, al⟩ := hl
    have e52 : el τ 52 i = y.1 + c * gr τ0 p := by rw [ax.1.1, hx.1]
    have gp := gC_pos (x := y.1) (y := gr τ0 p) (by omega)
    have gl := gC_le (x := y.1) (y := gr τ0 p) (by omega)
    have dc : dice (fl τ0 95 0) c y.1 (gr τ0 p) (1000003 * el τ0 68 p) = Int.tmod (iand (ixor (ixor (fl τ0 95 0 + 9973 * c + 7919 * Int.tdiv y.1 (gC y.1 (gr τ0 p)) + 104729 * Int.tdiv (gr τ0 p) (gC y.1 (gr τ0 p)) + 1000003 * el τ0 68 p) (iushr (fl τ0 95 0 + 9973 * c + 7919 * Int.tdiv y.1 (gC y.1 (gr τ0 p)) + 104729 * Int.tdiv (gr τ0 p) (gC y.1 (gr τ0 p)) + 1000003 * el τ0 68 p) 15) * 668265263) (iushr (ixor (fl τ0 95 0 + 9973 * c + 7919 * Int.tdiv y.1 (gC y.1 (gr τ0 p)) + 104729 * Int.tdiv (gr τ0 p) (gC y.1 (gr τ0 p)) + 1000003 * el τ0 68 p) (iushr (fl τ0 95 0 + 9973 * c + 7919 * Int.tdiv y.1 (gC y.1 (gr τ0 p)) + 104729 * Int.tdiv (gr τ0 p) (gC y.1 (gr τ0 p)) + 1000003 * el τ0 68 p) 15) * 668265263) 13)) 1048575) 1000 := rfl
    have st : r_draw_16 N (n + 1) τ p c (e + K.length) i = r_draw_161 N (r_draw_16 N n) τ p c (e + K.length) i (if dice (fl τ0 95 0) c y.1 (gr τ0 p) (1000003 * el τ0 68 p) < el τ0 69 p then 1 else 0) := by
      rw [r_draw_16, grd_t (by exact ⟨by omega, by omega⟩), grd_t (by exact ⟨by omega, by omega⟩), if_pos (by omega), grd_t (by exact ⟨by omega, by omega⟩), grd_t (by exact ⟨by omega, by omega⟩), tb.1 63 _ (by decide), show el τ0 63 p = gr τ0 p from rfl, grd_t (by exact ⟨by omega, by omega⟩), bnd, e52, show y.1 + c * gr τ0 p - c * gr τ0 p = y.1 by omega, r_gcd (by omega) b1 (by omega) (by omega) (by omega), Option.bind_some, grd_t (by exact ⟨by omega, by omega⟩), grd_t (by exact ⟨by omega, by omega⟩), grd_t (by omega), grd_t (by exact ⟨by omega, by omega⟩), tb.2, tb.1 68 _ (by decide), tb.1 69 _ (by decide), bnd, bnd, bnd, bnd, grd_t (iand_i _ _), grd_t (tmod_i (iand_i _ _)), grd_t (by exact ⟨by omega, by omega⟩), ← dc]
      split <;> rfl
    have s181 : ∀ s0 : Int, r_draw_161 N (r_draw_16 N n) τ p c (e + K.length) i s0 = r_draw_181 N (r_draw_16 N n) τ p c (e + K.length) i (if el τ0 70 p = 22 then 1 else 0) s0 := by
      intro s0
      rw [r_draw_161, grd_t (by exact ⟨by omega, by omega⟩), tb.1 70 _ (by decide), grd_t (by exact ⟨by omega, by omega⟩)]
      split <;> rfl
    have hz : i32 (if dice (fl τ0 95 0) c y.1 (gr τ0 p) (1000003 * el τ0 68 p) < el τ0 69 p then 1 else 0) := by split <;> decide
    have hz2 : i32 (if el τ0 70 p = 22 then 1 else 0) := by split <;> decide
    have iff1 : (if dice (fl τ0 95 0) c y.1 (gr τ0 p) (1000003 * el τ0 68 p) < el τ0 69 p then 1 else 0 : Int) = (if el τ0 70 p = 22 then 1 else 0 : Int) ↔ decide (dice (fl τ0 95 0) c y.1 (gr τ0 p) (1000003 * el τ0 68 p) < el τ0 69 p) = decide (el τ0 70 p = 22) := by
      by_cases u : dice (fl τ0 95 0) c y.1 (gr τ0 p) (1000003 * el τ0 68 p) < el τ0 69 p <;> by_cases v : el τ0 70 p = 22 <;> simp [u, v]
    rw [List.filter_cons]
    by_cases cc : (if dice (fl τ0 95 0) c y.1 (gr τ0 p) (1000003 * el τ0 68 p) < el τ0 69 p then 1 else 0 : Int) = (if el τ0 70 p = 22 then 1 else 0 : Int)
    · obtain ⟨τ1, p1, p2, p3, p4, p5⟩ := r_copied (N := N) (m := e) e0 (show e ≤ e + (K.length : Int) by omega) hi (by omega) ax
      have kk : e + (K.length : Int) + 1 = e + ((K ++ [x]).length : Int) := by simp only [List.length_append, List.length_cons, List.length_nil]; omega
      obtain ⟨τ2, z1, z2, z3, z4⟩ := r_draw_lp (τs := τs) h hK ha l n τ1 (K ++ [x]) (i + 1) Pl (by omega) ((p3.rq (k := 0)).tb tb) ((RM.of (fun b j _ j2 => p5 b j (by omega)) hA).snoc p4) (RM.of (fun b j j1 _ => p5 b j (by omega)) al) hx.2 (fun w hw => hb w (by simp [hw])) (by omega) (by rw [p2]; omega) (by rw [p2]; omega)
      rw [if_pos (decide_eq_true (iff1.1 cc))]
      refine ⟨τ2, ?_, p3.tr z2 (Int.le_refl _), ?_, ?_⟩
      · rw [st, s181, r_draw_181, grd_t hz, grd_t hz2, if_pos cc, p1, Option.bind_some, r_draw_198, kk]
        exact z1
      · rw [z3]; simp only [List.length_append, List.length_cons, List.length_nil]; omega
      · rw [List.map_append, List.append_assoc] at z4
        have : ab (c * gr τ0 p) (y :: Pl.filter (fun x => decide (decide (dice (fl τ0 95 0) c x.1 (gr τ0 p) (1000003 * el τ0 68 p) < el τ0 69 p) = decide (el τ0 70 p = 22)))) = [x.1] ++ ab (c * gr τ0 p) (Pl.filter (fun x => decide (decide (dice (fl τ0 95 0) c x.1 (gr τ0 p) (1000003 * el τ0 68 p) < el τ0 69 p) = decide (el τ0 70 p = 22)))) := by
          rw [hx.1]; rfl
        rw [this]
        exact z4
    · obtain ⟨τ2, z1, z2, z3, z4⟩ := r_draw_lp (τs := τs) h hK ha l n τ K (i + 1) Pl (by omega) tb hA al hx.2 (fun w hw => hb w (by simp [hw])) (by omega) (by omega) (by omega)
      rw [if_neg (fun k => cc (iff1.2 (of_decide_eq_true k)))]
      refine ⟨τ2, ?_, z2, z3, z4⟩
      rw [st, s181, r_draw_181, grd_t hz, grd_t hz2, if_neg cc, r_draw_198]
      exact z1
theorem rk_draw {τ : St} (h : PR2 N τ0 d k p c (fl τ 84 0)) (tb : TB τ0 τ) (hF : FRM τ k p c) (hK : el τ0 70 p = 21 ∨ el τ0 70 p = 22) (hn : NK19 τ0 p) : GO N τ k (fl τ 84 0) (ab (c * gr τ0 p) (rowK τ0 (rowL τ0 d) p c)) τ (1 + (sbd d + 1)) := by
  obtain ⟨n1, n2, n3, n4⟩ := hn
  obtain ⟨hHR, hT, hC, k0, k1, e0, e1, hN⟩ := id h
  obtain ⟨⟨g1, g2⟩, ⟨cp1, cp2⟩, -, ⟨wp1, wp2⟩, -⟩ := hT.2.1
  have pp := hT.pos
  have n41 := n4.1
  obtain ⟨τ1, κ, τ2, q1, q2, q3, q4, q5, q6, q7⟩ := single_first h tb hF (i := 0) (Or.inl rfl) (by omega) n4.1 n4.2.2 (by omega) (r_single_0 h tb hF ⟨by omega, by omega⟩)
  refine GO.call h (NR.rf (τ0 := τ0) tb hF) q1 q3 q2 ?_
  obtain ⟨kt, kr⟩ := h.kn (i := 0) (by omega) (by omega)
  have gd := row_good d (kd τ0 p 0) c kt
  have gl := gd.1
  have ph := phi_lo (show 0 ≤ wk τ0 p by omega)
  obtain ⟨-, -, -, -, -, -, a7, a8⟩ := id q4
  rw [ab_len] at a7
  rw [n3] at a8
  obtain ⟨lm, u1, u2⟩ := RE.rm a8
  have ll : lm.length = (rowL τ0 d (kd τ0 p 0) c).length := by rw [← List.length_map (f := Prod.fst), u2, ab_len]
  obtain ⟨τ3, z1, z2, z3, z4⟩ := r_draw_lp (N := N) (τs := τ) h hK n2 lm N τ2 [] (fl τ 84 0) (rowL τ0 d (kd τ0 p 0) c) (by omega) q4.1 trivial u1 u2 (fun x hx => by
    have := (gd.2.1 x hx).1
    have := kr.1.2
    omega) (by simp) (by omega) (by omega)
  simp only [List.length_nil, List.map_nil, List.nil_append] at z1 z3 z4
  rw [show fl τ 84 0 + ((0 : Nat) : Int) = fl τ 84 0 by omega] at z1
  have er : rowK τ0 (rowL τ0 d) p c = (rowL τ0 d (kd τ0 p 0) c).filter (fun x => decide (decide (dice (fl τ0 95 0) c x.1 (gr τ0 p) (1000003 * el τ0 68 p) < el τ0 69 p) = decide (el τ0 70 p = 22))) := by
    unfold rowK
    rcases hK with hK | hK
    · simp only [hK]
      show (rowL τ0 d (kd τ0 p 0) c).filter _ = _
      congr 1
      funext x
      by_cases u : dice (fl τ0 95 0) c x.1 (gr τ0 p) (1000003 * el τ0 68 p) < el τ0 69 p <;> simp [u]
    · simp only [hK]
      show (rowL τ0 d (kd τ0 p 0) c).filter _ = _
      congr 1
      funext x
      by_cases u : dice (fl τ0 95 0) c x.1 (gr τ0 p) (1000003 * el τ0 68 p) < el τ0 69 p <;> simp [u]
  refine GO.done h q4 (τ1 := τ3) ?_ ?_
  · obtain ⟨-, st⟩ := r_step_k h q4
    rw [st (r_single N τ2 k p c) (Or.inr (Or.inr (Or.inr (Or.inr (Or.inr (Or.inr (Or.inl ⟨by omega, rfl⟩)))))))]
    have : r_single N τ2 k p c = some (τ3, 0) := by
      have hd : r_draw N τ2 k p c = some τ3 := by
        rw [r_draw, grd_t (by exact ⟨by omega, by omega⟩), bnd, bnd, q5]
        exact z1
      rw [r_single, grd_t (by exact ⟨by omega, by omega⟩), q6, grd_t (by decide), if_neg (by decide), grd_t (by exact ⟨by omega, by omega⟩), q4.t 63 _ (by decide), show el τ0 63 p = gr τ0 p from rfl, grd_t (by exact ⟨by omega, by omega⟩), bnd, q4.t 70 _ (by decide), grd_t (by exact ⟨by omega, by omega⟩)]
      rcases hK with hK | hK
      · rw [hK]
        show Option.bind (r_draw N τ2 k p c) _ = _
        rw [hd, Option.bind_some]
      · rw [hK]
        show Option.bind (r_draw N τ2 k p c) _ = _
        rw [hd, Option.bind_some]
    rw [this, fin0]
  · rw [er]
    have := NR.ev (A := []) (L := ab (c * gr τ0 (kd τ0 p 0)) (rowL τ0 d (kd τ0 p 0) c)) (M := ab (c * gr τ0 p) ((rowL τ0 d (kd τ0 p 0) c).filter (fun x => decide (decide (dice (fl τ0 95 0) c x.1 (gr τ0 p) (1000003 * el τ0 68 p) < el τ0 69 p) = decide (el τ0 70 p = 22))))) (τ' := τ3) q4 (by simp only [List.length_nil]; rw [show fl τ 84 0 + ((0 : Nat) : Int) = fl τ 84 0 by omega]; exact z2) (by
      simp only [List.length_nil]
      rw [z3, ab_len]) (by simp only [List.length_nil]; rw [show fl τ 84 0 + ((0 : Nat) : Int) = fl τ 84 0 by omega]; exact z4)
    exact this
end RW1
