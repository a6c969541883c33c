/-! rows of the class: every kind; every depth -/
section CKc
variable {N : Nat} {π : Sh} {τ : St} {d : Nat} {σ : St} {r p c : Int}
/-- the marks at the start -/
theorem ck_meet29 (h : PH N π τ d σ r p c) {x4 x5 kk : Int} (hkk : i32 kk) : ∀ (l : List Evt) (n : Nat) (σ1 : St) (K : List (Evt × Int)), l.length < n → EF (fl σ 46 10) σ σ1 → fl σ1 46 10 = fl σ 46 10 + (K.length + l.length) → At (CM σ1) (fl σ 46 10) K → At (CE σ1) (fl σ 46 10 + K.length) l → (K.length + l.length : Int) ≤ cw τ p → ∃ σ', Rw_meet_29 N (Rw_rowC N d) π n σ1 r c x4 x5 kk (fl σ 46 10) (fl σ 46 10 + K.length) = (if kk = 19 then Option.bind (Es_chooseMarked N π σ' (fl σ 46 10) 0) (fun r14 => Rw_meet_98 N (Rw_rowC N d) π r14 r c x4 x5 kk (fl σ 46 10)) else Rw_meet_98 N (Rw_rowC N d) π σ' r c x4 x5 kk (fl σ 46 10)) ∧ EF (fl σ 46 10) σ σ' ∧ fl σ' 46 10 = fl σ 46 10 + (K.length + l.length) ∧ At (CM σ') (fl σ 46 10) (K ++ l.map (fun e => (e, if kk = 19 ∧ louE e.2.2 = false then 2 else 0)))
  | [], n + 1, σ1, K, _, hE, hT, hA, _, hl => by
    obtain ⟨-, -, -, -, -, -, t0, t1, hN, -⟩ := id h
    simp only [List.length_nil] at hT hl
    have ph := phi_lo (show 0 ≤ wk τ p by have := h.2.2.1.2.1.2.2.2.1.1; omega)
    refine ⟨σ1, ?_, hE, hT, by rw [List.map_nil, List.append_nil]; exact hA⟩
    rw [Rw_meet_29, grd_t (by exact ⟨by omega, by omega⟩), grd_t (by exact ⟨by omega, by omega⟩), if_neg (by omega), grd_t hkk]
  | e :: l, n + 1, σ1, K, hn, hE, hT, hA, ha, hl => by
    obtain ⟨-, -, -, -, -, -, t0, t1, hN, -⟩ := id h
    simp only [List.length_cons] at hT hl hn
    have ph := phi_lo (show 0 ≤ wk τ p by have := h.2.2.1.2.1.2.2.2.1.1; omega)
    have he := ha.1
    have kl1 : (K.length : Int) + 1 = ((K ++ [(e, if kk = 19 ∧ louE e.2.2 = false then (2 : Int) else 0)]).length : Int) := by simp only [List.length_append, List.length_cons, List.length_nil]; omega
    have hfr : ∀ (x : Int) a j, a ≠ 16 ∨ j ≠ fl σ 46 10 + K.length → el (se σ1 16 (fl σ 46 10 + K.length) x) a j = el σ1 a j := fun x a j hj => by
      rw [el_se, if_neg (by omega)]
    obtain ⟨σ', z1, z2, z3, z4⟩ := ck_meet29 h (x4 := x4) (x5 := x5) hkk l n (se σ1 16 (fl σ 46 10 + K.length) (if kk = 19 ∧ louE e.2.2 = false then (2 : Int) else 0)) (K ++ [(e, if kk = 19 ∧ louE e.2.2 = false then (2 : Int) else 0)]) (by omega) (hE.tr (m' := fl σ 46 10 + K.length) (EF.mk (fun _ _ _ => rfl) (fun a j ha => hfr _ a j (by omega)) (fun a j _ _ hj => hfr _ a j (by omega))) (by omega)) (by
        show fl σ1 46 10 = _
        rw [hT, ← kl1]; omega) (At.snoc (CM.of (fun b j j1 j2 => hfr _ b j (by omega)) hA) ⟨by
          unfold CE
          simp only [el_se]
          exact he, el_ses _ _ _ _⟩) (by
        rw [← kl1, show fl σ 46 10 + ((K.length : Int) + 1) = fl σ 46 10 + K.length + 1 by omega]
        exact CE.of (fun b j j1 j2 => hfr _ b j (by omega)) ha.2) (by rw [← kl1]; omega)
    refine ⟨σ', ?_, z2, by rw [z3, ← kl1]; simp only [List.length_cons]; omega, ?_⟩
    · have z1' := z1
      rw [← kl1, show fl σ 46 10 + ((K.length : Int) + 1) = fl σ 46 10 + K.length + 1 by omega] at z1'
      rw [← z1', Rw_meet_29, grd_t (by exact ⟨by omega, by omega⟩), grd_t (by exact ⟨by omega, by omega⟩), if_pos (by omega), grd_t hkk]
      by_cases c1 : kk = 19
      · rw [if_pos c1, c_isLoud (by omega) (by omega) he, Option.bind_some]
        cases hlo : louE e.2.2 with
        | true =>
          rw [if_pos rfl, grd_t (show i32 1 by decide), if_neg (show ¬ (1 : Int) = 0 by decide), Rw_meet_73, Rw_meet_74, grd_t (by exact ⟨by omega, by omega⟩), if_neg (by simp)]
        | false =>
          rw [if_neg (by simp), grd_t (show i32 0 by decide), if_pos rfl, Rw_meet_74, grd_t (by exact ⟨by omega, by omega⟩), if_pos ⟨c1, rfl⟩]
      · rw [if_neg c1, Rw_meet_73, Rw_meet_74, grd_t (by exact ⟨by omega, by omega⟩), if_neg (fun k => c1 k.1)]
    · rw [List.append_assoc] at z4
      exact z4
theorem ck_meet (h : PH N π τ d σ r p c) {im io : Int} (h01 : (im = 0 ∧ io = 1) ∨ (im = 1 ∧ io = 0)) (hn : NK23 τ p (kd τ p im) (kd τ p io)) (hK : (el τ 70 p = 23 ∧ fl σ 200 (fl σ 100 r) = 19) ∨ (el τ 70 p = 24 ∧ fl σ 200 (fl σ 100 r) = 20) ∨ (el τ 70 p = 25 ∧ fl σ 200 (fl σ 100 r) = 21)) (ha : el τ 70 p = 25 → fl σ 202 (fl σ 100 r) = el τ 69 p ∧ i32 (el τ 69 p)) : HK σ (metL τ (rowL τ d) p c (kd τ p im) (kd τ p io)) (Rw_meet N (Rw_rowC N d) π σ r c (el σ (fl σ 101 r) im) (el σ (fl σ 101 r) io)) := by
  obtain ⟨n1, n2, n3, n4⟩ := id hn
  obtain ⟨-, -, -, -, -, -, t0, t1, hN, -⟩ := id h
  obtain ⟨⟨g1, g2⟩, ⟨cp1, cp2⟩, -, ⟨wp1, wp2⟩, -⟩ := h.2.2.1.2.1
  obtain ⟨⟨a1, a2, a3, a4⟩, a5, a6, a7, a8, a9, a10⟩ := h.at (EF.rf 0 σ)
  have hkk : i32 (fl σ 200 (fl σ 100 r)) := by rcases hK with ⟨-, k⟩ | ⟨-, k⟩ | ⟨-, k⟩ <;> rw [k] <;> decide
  have km := (h.kn (i := im) (by omega) (by omega))
  have ko := (h.kn (i := io) (by omega) (by omega))
  obtain ⟨or1, or2⟩ := ko.2.2.2.1
  have kc : CB τ d (kd τ p im) c := h.2.2.2.1.same km.2.2.2.2.1.1 n3.2.2 (by omega) (by omega)
  have pm := phi_mono n3.2.2 wp2
  have n31 := n3.1
  obtain ⟨σ2, q1, q2, q3, q4⟩ := h.kid (EF.rf 0 σ) (i := im) (c' := c) (by omega) (by omega) kc t0 (by omega)
  have gd := row_good d (kd τ p im) c km.1
  have gl := gd.1
  have ph := phi_lo (show 0 ≤ wk τ p by omega)
  have gM : Gd 0 (gr τ p) (rc τ p * gr τ p) (rowL τ d (kd τ p im) c) := gd.2.wk (Int.le_refl _) (by omega) (by rw [n2]; exact Int.mul_le_mul_of_nonneg_right n3.2.1 (by omega))
  obtain ⟨σ3, z1, z2, z3, z4⟩ := ck_meet29 h (x4 := el σ (fl σ 101 r) im) (x5 := el σ (fl σ 101 r) io) hkk (rowL τ d (kd τ p im) c) N σ2 [] (by omega) q2 (by rw [q3]; simp) trivial (by simpa using q4) (by simp; omega)
  simp only [List.length_nil, List.nil_append] at z1 z3 z4
  rw [show fl σ 46 10 + ((0 : Nat) : Int) = fl σ 46 10 by omega] at z1
  have hd : Rw_meet N (Rw_rowC N d) π σ r c (el σ (fl σ 101 r) im) (el σ (fl σ 101 r) io) = Rw_meet_29 N (Rw_rowC N d) π N σ2 r c (el σ (fl σ 101 r) im) (el σ (fl σ 101 r) io) (fl σ 200 (fl σ 100 r)) (fl σ 46 10) (fl σ 46 10) := by
    rw [Rw_meet, grd_t a1, grd_t a5, bnd, q1, Option.bind_some]
  rw [hd, z1]
  -- the main events with all marks 0
  have main : ∀ (M : List Evt) (σ4 : St), EF (fl σ 46 10) σ σ4 → fl σ4 46 10 = fl σ 46 10 + M.length → At (CM σ4) (fl σ 46 10) (M.map (fun e => (e, (0 : Int)))) → Gd 0 (gr τ p) (rc τ p * gr τ p) M → (M.length : Int) ≤ cw τ (kd τ p im) → HK σ (meeL (el τ 70 p) (el τ 69 p) (fun x => fndL (rowL τ d (kd τ p io)) (gr τ p) (gr τ (kd τ p io)) (x * gr τ (kd τ p io)) c (rc τ (kd τ p io) + 1).toNat c) M) (Rw_meet_98 N (Rw_rowC N d) π σ4 r c (el σ (fl σ 101 r) im) (el σ (fl σ 101 r) io) (fl σ 200 (fl σ 100 r)) (fl σ 46 10)) := by
    intro M σ4 hE hT hA hM hMl
    have on : ∀ l : List Evt, opn (l.map (fun e => (e, (0 : Int)))) = l.length := by
      intro l
      induction l with
      | nil => rfl
      | cons x l ih => rw [List.map_cons, opn, ih, if_pos rfl, List.length_cons]; omega
    have e0 : M.map (fun e => stF (el τ 70 p) (el τ 69 p) (fndL (rowL τ d (kd τ p io)) (gr τ p) (gr τ (kd τ p io)) (e.1 * gr τ (kd τ p io)) c 0 c) e) = M.map (fun e => (e, (0 : Int))) := rfl
    obtain ⟨σ5, y1, y2, y3, y4⟩ := ck_meet117 h h01 hn hK ha hM hMl (kk := fl σ 200 (fl σ 100 r)) (rc τ (kd τ p io) + 1).toNat N 0 σ4 (by omega) (by omega) hE hT (by rw [e0]; exact hA)
    rw [e0, on] at y1
    have h98 : Rw_meet_98 N (Rw_rowC N d) π σ4 r c (el σ (fl σ 101 r) im) (el σ (fl σ 101 r) io) (fl σ 200 (fl σ 100 r)) (fl σ 46 10) = Rw_meet_198 N (Rw_rowC N d) π σ5 (fl σ 200 (fl σ 100 r)) (fl σ 46 10) := by
      rw [Rw_meet_98, bnd, hT, show fl σ 46 10 + (M.length : Int) - fl σ 46 10 = M.length by omega]
      rw [show c - ((0 : Nat) : Int) = c by omega] at y1
      exact y1
    rw [h98, Rw_meet_198, grd_t hkk, meeL_st]
    by_cases c21 : fl σ 200 (fl σ 100 r) = 21
    · have k25 : el τ 70 p = 25 := by omega
      rw [if_pos c21]
      have fa : (M.map (fun e => stF (el τ 70 p) (el τ 69 p) (fndL (rowL τ d (kd τ p io)) (gr τ p) (gr τ (kd τ p io)) (e.1 * gr τ (kd τ p io)) c (rc τ (kd τ p io) + 1).toNat c) e)).filter (fun x => decide (x.2 = 1 ∨ (el τ 70 p = 25 ∧ x.2 = 0))) = M.map (fun e => stF (el τ 70 p) (el τ 69 p) (fndL (rowL τ d (kd τ p io)) (gr τ p) (gr τ (kd τ p io)) (e.1 * gr τ (kd τ p io)) c (rc τ (kd τ p io) + 1).toNat c) e) := by
        rw [List.filter_eq_self]
        intro x hx
        obtain ⟨e, -, rfl⟩ := List.mem_map.1 hx
        refine decide_eq_true ?_
        cases fndL (rowL τ d (kd τ p io)) (gr τ p) (gr τ (kd τ p io)) (e.1 * gr τ (kd τ p io)) c (rc τ (kd τ p io) + 1).toNat c with
        | none => exact Or.inr ⟨k25, rfl⟩
        | some s =>
          refine Or.inl ?_
          show (if el τ 70 p = 24 ∧ louE s = false then 2 else 1 : Int) = 1
          rw [if_neg (by omega)]
      rw [fa]
      exact ⟨σ5, rfl, y2, by rw [y3, List.length_map, List.length_map], CM.ce y4⟩
    · rw [if_neg c21]
      obtain ⟨σ6, w1, w2, w3, w4, w5⟩ := c_chosen (N := N) (π := π) (x := 1) hN (by decide) y4 (fun x hx => by
        obtain ⟨e, -, rfl⟩ := List.mem_map.1 hx
        rcases (stF_b (el τ 70 p) (el τ 69 p) (fndL (rowL τ d (kd τ p io)) (gr τ p) (gr τ (kd τ p io)) (e.1 * gr τ (kd τ p io)) c (rc τ (kd τ p io) + 1).toNat c) e).2.1 with s | s | s <;> rw [s] <;> decide) t0 (by rw [y3, List.length_map]) (by rw [y3]; omega)
      rw [w1, Option.bind_some]
      have fe : (fun x : Evt × Int => decide (x.2 = 1 ∨ (el τ 70 p = 25 ∧ x.2 = 0))) = (fun x : Evt × Int => decide (x.2 = 1)) := funext (fun x => by
        rw [decide_eq_decide]
        constructor
        · intro k
          rcases k with k | k
          · exact k
          · omega
        · exact Or.inl)
      rw [fe]
      exact ⟨σ6, rfl, y2.tr w2 (Int.le_refl _), by rw [w4, List.length_map], CM.ce w5⟩
  by_cases c19 : fl σ 200 (fl σ 100 r) = 19
  · have k23 : el τ 70 p = 23 := by omega
    rw [if_pos c19]
    obtain ⟨σ4, w1, w2, w3, w4, w5⟩ := c_chosen (N := N) (π := π) (x := 0) hN (by decide) z4 (fun x hx => by
      obtain ⟨e, -, rfl⟩ := List.mem_map.1 hx
      show i32 (if _ then 2 else 0)
      split <;> decide) t0 (by rw [z3, List.length_map]; omega) (by rw [z3]; omega)
    rw [w1, Option.bind_some]
    have fl1 : ∀ l : List Evt, (l.map (fun e => (e, if fl σ 200 (fl σ 100 r) = 19 ∧ louE e.2.2 = false then (2 : Int) else 0))).filter (fun x => decide (x.2 = 0)) = (l.filter (fun e => louE e.2.2)).map (fun e => (e, (0 : Int))) := by
      intro l
      induction l with
      | nil => rfl
      | cons x l ih =>
        rw [List.map_cons, List.filter_cons, List.filter_cons, ih]
        cases hlo : louE x.2.2 with
        | true =>
          have : (if fl σ 200 (fl σ 100 r) = 19 ∧ true = false then (2 : Int) else 0) = 0 := if_neg (by simp)
          rw [this]
          rfl
        | false =>
          have : (if fl σ 200 (fl σ 100 r) = 19 ∧ false = false then (2 : Int) else 0) = 2 := if_pos ⟨c19, rfl⟩
          rw [this]
          rfl
    rw [fl1] at w4 w5
    rw [List.length_map] at w4
    have fle := flt_len (fun e => louE e.2.2) (rowL τ d (kd τ p im) c)
    have := main ((rowL τ d (kd τ p im) c).filter (fun e => louE e.2.2)) σ4 (z2.tr w2 (Int.le_refl _)) w4 w5 (gM.flt _) (by omega)
    unfold metL
    rw [if_pos k23]
    exact this
  · have k23 : ¬ el τ 70 p = 23 := by omega
    rw [if_neg c19]
    have e1 : (rowL τ d (kd τ p im) c).map (fun e => (e, if fl σ 200 (fl σ 100 r) = 19 ∧ louE e.2.2 = false then (2 : Int) else 0)) = (rowL τ d (kd τ p im) c).map (fun e => (e, (0 : Int))) := List.map_congr_left (fun e _ => by rw [if_neg (fun k => c19 k.1)])
    rw [e1] at z4
    have := main (rowL τ d (kd τ p im) c) σ3 z2 (by rw [z3]; omega) z4 gM gl
    unfold metL
    rw [if_neg k23]
    exact this
theorem ite_cast (P : Prop) [Decidable P] : (((if P then 1 else 2 : Nat) : Nat) : Int) = if P then 1 else 2 := by
  by_cases h : P
  · rw [if_pos h, if_pos h]; rfl
  · rw [if_neg h, if_neg h]; rfl
theorem shf_count {x y : Int} (hy : 1 ≤ y) (h : y = 1 ∨ x % y ≠ 0) : -((-x) / y) + 1 - x / y = if y = 1 then 1 else 2 := by
  rcases h with h | h
  · rw [if_pos h, h, Int.ediv_one, Int.ediv_one]; omega
  · have m0 := Int.emod_nonneg x (show y ≠ 0 by omega)
    have m1 := Int.emod_lt_of_pos x (show 0 < y by omega)
    have d1 := Int.emod_add_mul_ediv x y
    have hy1 : y ≠ 1 := fun k => h (by rw [k, Int.emod_one])
    rw [if_neg hy1]
    have : (-x) / y = -(x / y) - 1 := by
      rw [show -x = (y - x % y) + y * (-(x / y) - 1) by rw [Int.mul_sub, Int.mul_neg]; omega, Int.add_mul_ediv_left _ _ (by omega), Int.ediv_eq_zero_of_lt (by omega) (by omega)]
      omega
    omega
theorem shf_mod {x y : Int} (h0 : 0 ≤ x) (h1 : x < y) : -((-x) / y) + 1 - x / y = if x = 0 then 1 else 2 := by
  rw [Int.ediv_eq_zero_of_lt h0 h1]
  by_cases c : x = 0
  · rw [if_pos c, c]; simp
  · rw [if_neg c]
    have : (-x) / y = -1 := by
      rw [show -x = (y - x) + y * (-1) by omega, Int.add_mul_ediv_left _ _ (by omega), Int.ediv_eq_zero_of_lt (by omega) (by omega)]
      rfl
    omega
/-- any kind of node -/
theorem ck_row (h : PH N π τ d σ r p c) (hN2 : 210001 ≤ N) (hsd : i32 (fl τ 95 0)) : HK σ (rowL τ (d + 1) p c) (Rw_rowC N (d + 1) π σ r c) := by
  show HK σ (rowK τ (rowL τ d) p c) (Rw_row N (Rw_rowC N d) π σ r c)
  obtain ⟨-, -, -, -, -, -, t0, t1, hN, -⟩ := id h
  obtain ⟨⟨g1, g2⟩, ⟨cp1, cp2⟩, -, ⟨wp1, wp2⟩, -⟩ := h.2.2.1.2.1
  have cb := h.2.2.2.1.abs h.2.2.1.2.1
  obtain ⟨⟨a1, a2, a3, a4⟩, a5, a6, a7, a8, a9, a10⟩ := h.at (EF.rf 0 σ)
  have ec : fl σ 103 r = cw τ p := h.2.1.2.1.2.1
  have gd := rowK_good h.2.2.1 (fun q c' hq => row_good d q c' hq) c
  have ph := phi_lo (show 0 ≤ wk τ p by omega)
  rw [Rw_row, grd_t a1, ec, grd_t (by exact ⟨by omega, by omega⟩)]
  by_cases c0 : cw τ p = 0
  · rw [if_pos c0]
    have : rowK τ (rowL τ d) p c = [] := List.length_eq_zero_iff.1 (by have := gd.1; omega)
    rw [this]
    exact AC.hk (AC.rf σ)
  rw [if_neg c0, grd_t a5]
  have k200 := a10.1
  have hb : ∀ {x : Option St} {L : List Evt}, HK σ L x → HK σ L (Option.bind x (fun r => some r)) := fun {x L} hx => by
    obtain ⟨σ', e1, e2⟩ := hx
    exact ⟨σ', by rw [e1, Option.bind_some], e2⟩
  rcases h.2.2.1.2.2.2.2 with ⟨hK, n1⟩ | ⟨hK, n1⟩ | hK | ⟨hK, n1⟩ | ⟨hK, n1⟩ | ⟨hK, n1⟩ | ⟨hK, n1⟩ | ⟨hK, n1⟩ | ⟨hK, n1⟩ | ⟨hK, n1⟩ | ⟨hK, n1⟩ | ⟨hK, n1⟩ | ⟨hK, n1⟩ | ⟨hK, n1, n2⟩ | ⟨hK, n1, n2⟩ | ⟨hK, n1, n2, n3, n4, n5⟩ | ⟨hK, n1⟩ | ⟨hK, n1⟩ | ⟨hK, n1⟩ | ⟨hK, n1⟩ | ⟨hK, n1, n2⟩ | ⟨hK, n1, n2⟩ | ⟨hK, n1⟩ | ⟨hK, n1⟩ | ⟨hK, n1, n2⟩
  · -- a word
    have k : fl σ 200 (fl σ 100 r) = 1 := by rw [k200, hK]; rfl
    rw [k, grd_t (by decide), if_pos rfl]
    have rv := a10.2.1 hK
    obtain ⟨σ', p1, p2, p3, p4, p5, p6⟩ := c_push (N := N) (π := π) (σ := σ) (x1 := 0) (x3 := 1) t0 (by omega) rv
    have er : rowK τ (rowL τ d) p c = [(0, 1, el τ 69 p, el τ 68 p, 0, 1)] := by unfold rowK; simp only [hK]; rfl
    rw [p1, Option.bind_some, er]
    exact ⟨σ', rfl, p2, by rw [p3]; simp, p4, trivial⟩
  · have k : fl σ 200 (fl σ 100 r) = 2 := by rw [k200, hK]; rfl
    rw [k, grd_t (by decide), if_neg (by decide), if_pos rfl]
    have ea : fl σ 202 (fl σ 100 r) = el τ 69 p := by rw [a10.2.2.1 (by omega) (by omega) (by omega), if_neg (by omega), if_neg (by omega)]
    have rv : RV 0 (el τ 69 p) 1 (0, 0, el τ 69 p, 2) := ⟨⟨[], (by unfold okL; simp), by decide, rfl, rfl, rfl⟩, by decide, by simp, rfl, n1.2.2, by simp, by simp, by simp, fun k => by simp at k⟩
    obtain ⟨σ', p1, p2, p3, p4, p5, p6⟩ := c_push (N := N) (π := π) (σ := σ) (x1 := 0) (x3 := 1) t0 (by omega) rv
    have er : rowK τ (rowL τ d) p c = [(0, 1, 0, 0, el τ 69 p, 2)] := by unfold rowK; simp only [hK]; rfl
    rw [ea, p1, Option.bind_some, er]
    exact ⟨σ', rfl, p2, by rw [p3]; simp, p4, trivial⟩
  · have k : fl σ 200 (fl σ 100 r) = 3 := by rw [k200, hK]; rfl
    rw [k, grd_t (by decide), if_neg (by decide), if_neg (by decide), if_pos rfl]
    have er : rowK τ (rowL τ d) p c = [] := by unfold rowK; simp only [hK]; rfl
    rw [er]
    exact AC.hk (AC.rf σ)
  · have k : fl σ 200 (fl σ 100 r) = 4 := by rw [k200, hK]; rfl
    rw [k, grd_t (by decide)]
    exact hb (ck_seq h hN2 hK n1)
  · have k : fl σ 200 (fl σ 100 r) = 8 := by rw [k200, hK]; rfl
    rw [k, grd_t (by decide)]
    exact hb (ck_layer h hN2 hK n1)
  · have k : fl σ 200 (fl σ 100 r) = 5 := by rw [k200, hK]; rfl
    rw [k, grd_t (by decide)]
    exact hb (ck_turn h hN2 hK n1)
  · have k : fl σ 200 (fl σ 100 r) = 6 := by rw [k200, hK]; rfl
    rw [k, grd_t (by decide)]
    exact hb (ck_poly h hN2 hK n1)
  · have k : fl σ 200 (fl σ 100 r) = 7 := by rw [k200, hK]; rfl
    rw [k, grd_t (by decide)]
    by_cases c1 : 1 ≤ el τ 69 p
    · exact hb (ck_euclid h hK n1 c1)
    · exact absurd (n1.2.2.2.2.2.2.2.1 (by have := n1.2.1.1; omega)) c0
  · have k : fl σ 200 (fl σ 100 r) = 9 := by rw [k200, hK]; rfl
    rw [k, grd_t (by decide)]
    exact hb (ck_fast h hK n1)
  · have k : fl σ 200 (fl σ 100 r) = 10 := by rw [k200, hK]; rfl
    obtain ⟨m1, m2, m3, m4, m5, m6, m7, m8, m9⟩ := n1
    have ea : fl σ 202 (fl σ 100 r) = el τ 69 p := by rw [a10.2.2.1 (by omega) (by omega) (by omega), if_neg (by omega), if_neg (by omega)]
    have eb : fl σ 203 (fl σ 100 r) = el τ 68 p := by rw [a10.2.2.2.1 (by omega), if_neg (by omega), if_neg (by omega)]
    have q := ck_shift h (x := el τ 69 p) (y := el τ 68 p) (m := if el τ 68 p = 1 then 1 else 2) m1 m3 ⟨by omega, m2.2⟩ m5 m6 m9 (by rw [ite_cast]; exact m7) (by rw [ite_cast]; exact shf_count m3.1 m4)
    have er : rowK τ (rowL τ d) p c = rwsL (fun j => rowL τ d (kd τ p 0) (c + j)) (gr τ p / gr τ (kd τ p 0)) (fun j => j * gr τ p - el τ 69 p * (gr τ p / el τ 68 p)) (gr τ p) (if el τ 68 p = 1 then 1 else 2) (el τ 69 p / el τ 68 p) := by unfold rowK; simp only [hK]; rfl
    rw [k, grd_t (by decide), er, ea, eb]
    show HK σ _ (grd (i32 (el τ 69 p)) (grd (i32 (el τ 68 p)) (Option.bind (Rw_shift N (Rw_rowC N d) π σ r c (el τ 69 p) (el τ 68 p)) (fun r50 => some r50))))
    rw [grd_t (by exact ⟨by omega, by omega⟩), grd_t (by exact ⟨by omega, by omega⟩)]
    exact hb q
  · have k : fl σ 200 (fl σ 100 r) = 10 := by rw [k200, hK]; rfl
    obtain ⟨m1, m2, m3, m4, m5, m6, m7, m8, m9⟩ := n1
    have ea : fl σ 202 (fl σ 100 r) = -el τ 69 p := by rw [a10.2.2.1 (by omega) (by omega) (by omega), if_pos hK]
    have eb : fl σ 203 (fl σ 100 r) = el τ 68 p := by rw [a10.2.2.2.1 (by omega), if_neg (by omega), if_neg (by omega)]
    have m4' : el τ 68 p = 1 ∨ (-el τ 69 p) % el τ 68 p ≠ 0 := m4.imp id (fun k e => k (by
      have := Int.dvd_of_emod_eq_zero e
      exact Int.emod_eq_zero_of_dvd ((Int.dvd_neg).1 this)))
    have q := ck_shift h (x := -el τ 69 p) (y := el τ 68 p) (m := if el τ 68 p = 1 then 1 else 2) m1 m3 ⟨by omega, by omega⟩ m5 m6 m9 (by rw [ite_cast]; exact m7) (by rw [ite_cast]; exact shf_count m3.1 m4')
    have er : rowK τ (rowL τ d) p c = rwsL (fun j => rowL τ d (kd τ p 0) (c + j)) (gr τ p / gr τ (kd τ p 0)) (fun j => j * gr τ p - -el τ 69 p * (gr τ p / el τ 68 p)) (gr τ p) (if el τ 68 p = 1 then 1 else 2) (-el τ 69 p / el τ 68 p) := by unfold rowK; simp only [hK]; rfl
    rw [k, grd_t (by decide), er, ea, eb]
    show HK σ _ (grd (i32 (-el τ 69 p)) (grd (i32 (el τ 68 p)) (Option.bind (Rw_shift N (Rw_rowC N d) π σ r c (-el τ 69 p) (el τ 68 p)) (fun r50 => some r50))))
    rw [grd_t (by exact ⟨by omega, by omega⟩), grd_t (by exact ⟨by omega, by omega⟩)]
    exact hb q
  · have k : fl σ 200 (fl σ 100 r) = 11 := by rw [k200, hK]; rfl
    rw [k, grd_t (by decide)]
    exact hb (ck_reverse h hK n1)
  · have k : fl σ 200 (fl σ 100 r) = 12 := by rw [k200, hK]; rfl
    obtain ⟨m1, m2, m3, m4, m5, m6⟩ := n1
    have ea : fl σ 202 (fl σ 100 r) = el τ 69 p := by rw [a10.2.2.1 (by omega) (by omega) (by omega), if_neg (by omega), if_neg (by omega)]
    have e0 := Int.emod_nonneg c (show el τ 69 p ≠ 0 by omega)
    have e1 := Int.emod_lt_of_pos c (show 0 < el τ 69 p by omega)
    rw [k, grd_t (by decide), ea]
    show HK σ _ (grd (i32 (el τ 69 p)) (Option.bind (M_floorMod N c (el τ 69 p)) (fun r61 => grd (i64 r61) (if r61 = 0 then Rw_row_280 N (Rw_rowC N d) π σ 1 c r else Rw_row_280 N (Rw_rowC N d) π σ 0 c r))))
    rw [grd_t (by exact ⟨by omega, by omega⟩), c_fmod ⟨by omega, by omega⟩ ⟨by omega, by omega⟩ (by omega), Option.bind_some, grd_t (by exact ⟨by omega, by omega⟩)]
    by_cases c1 : c % el τ 69 p = 0
    · have er : rowK τ (rowL τ d) p c = mv (gr τ p / gr τ (kd τ p 1)) 0 (rowL τ d (kd τ p 1) c) := by unfold rowK; simp only [hK, if_pos c1]; rfl
      rw [if_pos c1, er]
      exact hb (ck_either h (Or.inr rfl) m1 m4 m6)
    · have er : rowK τ (rowL τ d) p c = mv (gr τ p / gr τ (kd τ p 0)) 0 (rowL τ d (kd τ p 0) c) := by unfold rowK; simp only [hK, if_neg c1]; rfl
      rw [if_neg c1, er]
      exact hb (ck_either h (Or.inl rfl) m1 m3 m5)
  · have k : fl σ 200 (fl σ 100 r) = 13 := by rw [k200, hK]; rfl
    obtain ⟨m1, m2, m3, m4, m5, m6⟩ := n1
    have ea : fl σ 202 (fl σ 100 r) = el τ 69 p := by rw [a10.2.2.1 (by omega) (by omega) (by omega), if_neg (by omega), if_neg (by omega)]
    have eb : fl σ 203 (fl σ 100 r) = el τ 68 p := by rw [a10.2.2.2.1 (by omega), if_neg (by omega), if_neg (by omega)]
    have e0 := Int.emod_nonneg c (show el τ 69 p ≠ 0 by omega)
    have e1 := Int.emod_lt_of_pos c (show 0 < el τ 69 p by omega)
    rw [k, grd_t (by decide), ea, eb]
    show HK σ _ (grd (i32 (el τ 69 p)) (Option.bind (M_floorMod N c (el τ 69 p)) (fun r67 => grd (i32 (el τ 68 p)) (grd (i64 r67) (grd (i64 (el τ 68 p)) (if r67 < el τ 68 p then Rw_row_314 N (Rw_rowC N d) π σ 0 c r else Rw_row_314 N (Rw_rowC N d) π σ 1 c r))))))
    rw [grd_t (by exact ⟨by omega, by omega⟩), c_fmod ⟨by omega, by omega⟩ ⟨by omega, by omega⟩ (by omega), Option.bind_some, grd_t (by exact ⟨by omega, by omega⟩), grd_t (by exact ⟨by omega, by omega⟩), grd_t (by exact ⟨by omega, by omega⟩)]
    by_cases c1 : c % el τ 69 p < el τ 68 p
    · have er : rowK τ (rowL τ d) p c = mv (gr τ p / gr τ (kd τ p 0)) 0 (rowL τ d (kd τ p 0) c) := by unfold rowK; simp only [hK, if_pos c1]; rfl
      rw [if_pos c1, er]
      exact hb (ck_either h (Or.inl rfl) m1 m3 m5)
    · have er : rowK τ (rowL τ d) p c = mv (gr τ p / gr τ (kd τ p 1)) 0 (rowL τ d (kd τ p 1) c) := by unfold rowK; simp only [hK, if_neg c1]; rfl
      rw [if_neg c1, er]
      exact hb (ck_either h (Or.inr rfl) m1 m4 m6)
  · have k : fl σ 200 (fl σ 100 r) = 16 := by rw [k200, hK]; rfl
    rw [k, grd_t (by decide)]
    exact hb (ck_chunk h hK n1 n2)
  · have k : fl σ 200 (fl σ 100 r) = 17 := by rw [k200, hK]; rfl
    have ea : fl σ 202 (fl σ 100 r) = el τ 69 p := by rw [a10.2.2.1 (by omega) (by omega) (by omega), if_neg (by omega), if_neg (by omega)]
    have eb : fl σ 203 (fl σ 100 r) = el τ 68 p := by rw [a10.2.2.2.1 (by omega), if_neg (by omega), if_neg (by omega)]
    have ecc : fl σ 204 (fl σ 100 r) = el τ 67 p := a10.2.2.2.2.1 (by omega)
    have edd : fl σ 205 (fl σ 100 r) = el τ 66 p := a10.2.2.2.2.2.1 (by omega)
    obtain ⟨lo, hi, u1, u2, u3⟩ := ck_span h hK n1 n2 n3 n4 n5
    rw [k, grd_t (by decide), ea, eb, ecc, edd, a4]
    show HK σ _ (grd (i32 (el τ 69 p)) (grd (i32 (el τ 68 p)) (Option.bind (Rw_ceiling N (el τ 69 p * gr τ p) (el τ 68 p)) (fun r94 => grd (i32 (el τ 67 p)) (grd (i32 (el τ 66 p)) (Option.bind (Rw_ceiling N (el τ 67 p * gr τ p) (el τ 66 p)) (fun r98 => Option.bind (Rw_within N (Rw_rowC N d) π σ r c r94 r98) (fun r100 => some r100))))))))
    rw [grd_t (by exact ⟨by omega, by omega⟩), grd_t (by exact ⟨by omega, by omega⟩), u1, Option.bind_some, grd_t (by exact ⟨by omega, by omega⟩), grd_t (by exact ⟨by omega, by omega⟩), u2, Option.bind_some]
    exact hb u3
  · have k : fl σ 200 (fl σ 100 r) = 14 := by rw [k200, hK]; rfl
    obtain ⟨m1, m2, m3, m4, m5, m6, m7⟩ := n1
    have ea : fl σ 202 (fl σ 100 r) = el τ 69 p := by rw [a10.2.2.1 (by omega) (by omega) (by omega), if_neg (by omega), if_neg (by omega)]
    have e0 := Int.emod_nonneg c (show el τ 69 p ≠ 0 by omega)
    have e1 := Int.emod_lt_of_pos c (show 0 < el τ 69 p by omega)
    have kc0 := (h.kn (i := 0) (by omega) (by omega)).2.2.1.1
    have d0 : c % el τ 69 p / el τ 69 p = 0 := Int.ediv_eq_zero_of_lt e0 e1
    have q := ck_shift h (x := c % el τ 69 p) (y := el τ 69 p) (m := if c % el τ 69 p = 0 then 1 else 2) m1.1 m2 ⟨by omega, by omega⟩ m3 m4 m7 (by
      rw [ite_cast]
      split <;> omega) (by rw [ite_cast]; exact shf_mod e0 e1)
    have er : rowK τ (rowL τ d) p c = rwsL (fun j => rowL τ d (kd τ p 0) (c + j)) (gr τ p / gr τ (kd τ p 0)) (fun j => j * gr τ p - c % el τ 69 p * (gr τ p / el τ 69 p)) (gr τ p) (if c % el τ 69 p = 0 then 1 else 2) 0 := by unfold rowK; simp only [hK]; rfl
    rw [k, grd_t (by decide), er, ea]
    rw [d0] at q
    show HK σ _ (grd (i32 (el τ 69 p)) (Option.bind (M_floorMod N c (el τ 69 p)) (fun r75 => Option.bind (Rw_shift N (Rw_rowC N d) π σ r c r75 (el τ 69 p)) (fun r77 => some r77))))
    rw [grd_t (by exact ⟨by omega, by omega⟩), c_fmod ⟨by omega, by omega⟩ ⟨by omega, by omega⟩ (by omega), Option.bind_some]
    exact hb q
  · have k : fl σ 200 (fl σ 100 r) = 15 := by rw [k200, hK]; rfl
    rw [k, grd_t (by decide)]
    exact hb (ck_ply h hK n1)
  · have k : fl σ 200 (fl σ 100 r) = 18 := by rw [k200, hK]; rfl
    rw [k, grd_t (by decide)]
    exact hb (ck_rotate h hK n1)
  · have k : fl σ 200 (fl σ 100 r) = 24 := by rw [k200, hK]; rfl
    rw [k, grd_t (by decide)]
    exact hb (ck_squeeze h hK n1)
  · have k : fl σ 200 (fl σ 100 r) = 22 := by rw [k200, hK]; rfl
    rw [k, grd_t (by decide)]
    exact hb (ck_draws h (Or.inl hK) n1 n2 hsd)
  · have k : fl σ 200 (fl σ 100 r) = 23 := by rw [k200, hK]; rfl
    rw [k, grd_t (by decide)]
    exact hb (ck_draws h (Or.inr hK) n1 n2 hsd)
  · have k : fl σ 200 (fl σ 100 r) = 19 := by rw [k200, hK]; rfl
    have q := ck_meet h (im := 0) (io := 1) (Or.inl ⟨rfl, rfl⟩) n1 (Or.inl ⟨hK, k⟩) (fun k' => by omega)
    have er : rowK τ (rowL τ d) p c = metL τ (rowL τ d) p c (kd τ p 0) (kd τ p 1) := by unfold rowK; simp only [hK]; rfl
    have many := n1.1
    rw [k, grd_t (by decide), er]
    show HK σ _ (grd (ob π (fl σ 101 r) 26) (grd (ina π (fl σ 101 r) 0) (grd (ina π (fl σ 101 r) 1) (Option.bind (Rw_meet N (Rw_rowC N d) π σ r c (el σ (fl σ 101 r) 0) (el σ (fl σ 101 r) 1)) (fun r113 => some r113)))))
    rw [grd_t a6, grd_t (by exact ⟨by omega, by omega, by omega⟩), grd_t (by exact ⟨by omega, by omega, by omega⟩)]
    exact hb q
  · have k : fl σ 200 (fl σ 100 r) = 20 := by rw [k200, hK]; rfl
    have q := ck_meet h (im := 1) (io := 0) (Or.inr ⟨rfl, rfl⟩) n1 (Or.inr (Or.inl ⟨hK, k⟩)) (fun k' => by omega)
    have er : rowK τ (rowL τ d) p c = metL τ (rowL τ d) p c (kd τ p 1) (kd τ p 0) := by unfold rowK; simp only [hK]; rfl
    have many := n1.1
    rw [k, grd_t (by decide), er]
    show HK σ _ (grd (ob π (fl σ 101 r) 26) (grd (ina π (fl σ 101 r) 1) (grd (ina π (fl σ 101 r) 0) (Option.bind (Rw_meet N (Rw_rowC N d) π σ r c (el σ (fl σ 101 r) 1) (el σ (fl σ 101 r) 0)) (fun r121 => some r121)))))
    rw [grd_t a6, grd_t (by exact ⟨by omega, by omega, by omega⟩), grd_t (by exact ⟨by omega, by omega, by omega⟩)]
    exact hb q
  · have k : fl σ 200 (fl σ 100 r) = 21 := by rw [k200, hK]; rfl
    have ea : fl σ 202 (fl σ 100 r) = el τ 69 p := by rw [a10.2.2.1 (by omega) (by omega) (by omega), if_neg (by omega), if_neg (by omega)]
    have q := ck_meet h (im := 0) (io := 1) (Or.inl ⟨rfl, rfl⟩) n1 (Or.inr (Or.inr ⟨hK, k⟩)) (fun _ => ⟨ea, n2⟩)
    have er : rowK τ (rowL τ d) p c = metL τ (rowL τ d) p c (kd τ p 0) (kd τ p 1) := by unfold rowK; simp only [hK]; rfl
    have many := n1.1
    rw [k, grd_t (by decide), er]
    show HK σ _ (grd (ob π (fl σ 101 r) 26) (grd (ina π (fl σ 101 r) 0) (grd (ina π (fl σ 101 r) 1) (Option.bind (Rw_meet N (Rw_rowC N d) π σ r c (el σ (fl σ 101 r) 0) (el σ (fl σ 101 r) 1)) (fun r129 => some r129)))))
    rw [grd_t a6, grd_t (by exact ⟨by omega, by omega, by omega⟩), grd_t (by exact ⟨by omega, by omega, by omega⟩)]
    exact hb q
theorem c_rows (hN2 : 210001 ≤ N) (hsd : i32 (fl τ 95 0)) (hS : SHs π) : ∀ d, HC N π τ d
  | 0 => fun σ r p c h => h.elim
  | d + 1 => fun σ r p c h1 h2 h3 h4 h5 h6 h7 => ck_row (σ := σ) (r := r) (p := p) (c := c) ⟨c_rows hN2 hsd hS d, h1, h2, h3, h4, h5, h6, h7, by omega, hS⟩ hN2 hsd
end CKc
