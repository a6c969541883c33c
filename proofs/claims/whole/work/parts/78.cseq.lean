/-! rows of the class: sequences, spreads, polymeters, layers -/
section CK3
variable {N : Nat} {π : Sh} {τ : St} {d : Nat} {σ : St} {r p c : Int}
/-- a change of begins and lengths of some events -/
theorem EF.se2 {m i : Int} (σ : St) (x y : Int) (h : m ≤ i) : EF m σ (se (se σ 11 i x) 12 i y) := EF.mk (fun _ _ _ => rfl) (fun a j ha => by rw [el_sen _ _ _ _ (by omega), el_sen _ _ _ _ (by omega)]) (fun a j _ _ hj => by
  simp only [el_se]
  rw [if_neg (by omega), if_neg (by omega)])
theorem ck_seq155 {R : Sh → St → Int → Int → Option St} {rec29 : St → Int → Int → Int → Int → Int → Int → Option St} {x1 x2 x4 x5 x7 x9 x11 x13 x16 : Int} : ∀ (l : List Evt) (n : Nat) (σ1 : St) (i : Int), l.length < n → At (CE σ1) i l → 0 ≤ i → i + l.length = x16 → x16 ≤ 6000 → ob π x4 10 → ob π (fl σ1 212 x4) 22 → ina π (fl σ1 212 x4) x9 → 23 < fl σ1 212 x4 → i32 (el σ1 (fl σ1 212 x4) x9) → ∃ σ2, Rw_sequence_155 N R π rec29 n σ1 x1 x2 x4 x5 x7 x9 x11 x13 x16 i = rec29 σ2 x1 x2 x4 x5 (x7 + x11 * el σ1 (fl σ1 212 x4) x9) (x9 + 1) ∧ EF i σ1 σ2 ∧ fl σ2 46 10 = fl σ1 46 10 ∧ At (CE σ2) i (mv x13 (x7 * x5) l) ∧ ∀ a j, x16 ≤ j → el σ2 a j = el σ1 a j
  | [], n + 1, σ1, i, _, _, h0, h1, h2, o1, o2, o3, o4, o5 => by
    simp only [List.length_nil] at h1
    refine ⟨σ1, ?_, EF.rf _ _, rfl, trivial, fun _ _ _ => rfl⟩
    rw [Rw_sequence_155, grd_t (by exact ⟨by omega, by omega⟩), grd_t (by exact ⟨by omega, by omega⟩), if_neg (by omega), grd_t o1, grd_t o2, grd_t o3, grd_t o5, bnd]
  | e :: l, n + 1, σ1, i, hn, ha, h0, h1, h2, o1, o2, o3, o4, o5 => by
    simp only [List.length_cons] at h1 hn
    obtain ⟨⟨e1, e2, e3⟩, ha⟩ := ha
    have f1 : EF i σ1 (se (se σ1 11 i (e.1 * x13 + x7 * x5)) 12 i (e.2.1 * x13)) := EF.se2 σ1 _ _ (Int.le_refl _)
    have k1 : el (se (se σ1 11 i (e.1 * x13 + x7 * x5)) 12 i (e.2.1 * x13)) (fl σ1 212 x4) x9 = el σ1 (fl σ1 212 x4) x9 := by rw [el_sen _ _ _ _ (by omega), el_sen _ _ _ _ (by omega)]
    obtain ⟨σ2, q1, q2, q3, q4, q5⟩ := ck_seq155 (R := R) (rec29 := rec29) (x1 := x1) (x2 := x2) (x4 := x4) (x5 := x5) (x7 := x7) (x9 := x9) (x11 := x11) (x13 := x13) (x16 := x16) l n (se (se σ1 11 i (e.1 * x13 + x7 * x5)) 12 i (e.2.1 * x13)) (i + 1) (by omega) (CE.of (fun b j j1 j2 => by
      simp only [el_se]
      rw [if_neg (by omega), if_neg (by omega)]) ha) (by omega) (by omega) h2 o1 o2 o3 o4 (by show i32 (el (se (se σ1 11 i (e.1 * x13 + x7 * x5)) 12 i (e.2.1 * x13)) (fl σ1 212 x4) x9); rw [k1]; exact o5)
    refine ⟨σ2, ?_, f1.tr q2 (by omega), q3, ?_, fun a j hj => ?_⟩
    · rw [Rw_sequence_155, grd_t (by exact ⟨by omega, by omega⟩), grd_t (by exact ⟨by omega, by omega⟩), if_pos (by omega), grd_t (by exact ⟨by omega, by omega⟩), e1, e2, q1]
      show rec29 σ2 x1 x2 x4 x5 (x7 + x11 * el (se (se σ1 11 i (e.1 * x13 + x7 * x5)) 12 i (e.2.1 * x13)) (fl σ1 212 x4) x9) (x9 + 1) = _
      rw [k1]
    · refine ⟨?_, q4⟩
      have : At (CE (se (se σ1 11 i (e.1 * x13 + x7 * x5)) 12 i (e.2.1 * x13))) i [(e.1 * x13 + x7 * x5, e.2.1 * x13, e.2.2)] := ⟨by
        unfold CE
        simp only [el_se]
        exact ⟨rfl, rfl, e3⟩, trivial⟩
      exact (q2.at this (by simp)).1
    · rw [q5 a j hj]
      simp only [el_se]
      rw [if_neg (by omega), if_neg (by omega)]
theorem repL_nil (t sh w : Int) : ∀ (n : Nat) (a : Int), repL [] t sh w n a = []
  | 0, _ => rfl
  | n + 1, a => by rw [repL, repL_nil t sh w n]; rfl
theorem repL_len (L : List Evt) (t sh w : Int) : ∀ (n : Nat) (a : Int), ((repL L t sh w n a).length : Int) = n * L.length
  | 0, _ => by simp [repL]
  | n + 1, a => by
    rw [repL, List.length_append, mv_len, Int.natCast_add, repL_len L t sh w n]
    rw [Int.natCast_add, Int.add_mul]
    omega
theorem ck_seq100 {R : Sh → St → Int → Int → Option St} {rec29 : St → Int → Int → Int → Int → Int → Int → Option St} {x1 x2 x4 x5 x7 x9 x11 x13 t o : Int} {A L : List Evt} {σ : St} (hN : 6001 ≤ N) (ht : 0 ≤ t) (o1 : ob π x4 10) (o2 : ob π (fl σ 212 x4) 22) (o3 : ina π (fl σ 212 x4) x9) (o4 : 23 < fl σ 212 x4) (o5 : el σ (fl σ 212 x4) x9 = o ∧ i32 o) : ∀ (m n : Nat) (k : Int) (σ1 : St) (B : List Evt), m < n → AC σ t (A ++ L ++ B) σ1 → k + m = o → 1 ≤ k → t + (A ++ L ++ B).length + m * L.length ≤ 6000 → ∃ σ2, Rw_sequence_100 N R π rec29 n σ1 x1 x2 x4 x5 x7 x9 x11 x13 (t + A.length) (t + A.length + L.length) k = rec29 σ2 x1 x2 x4 x5 (x7 + x11 * o) (x9 + 1) ∧ AC σ t (A ++ mv x13 (x7 * x5) L ++ B ++ repL L x13 x5 x11 m (x7 + k * x11)) σ2 := by
  -- the end: the first of the copies
  have fin : ∀ (σ1 : St) (B : List Evt), AC σ t (A ++ L ++ B) σ1 → t + (A ++ L ++ B).length ≤ 6000 → ∃ σ2, Rw_sequence_151 N R π rec29 σ1 x1 x2 x4 x5 x7 x9 x11 x13 (t + A.length) (t + A.length + L.length) = rec29 σ2 x1 x2 x4 x5 (x7 + x11 * o) (x9 + 1) ∧ AC σ t (A ++ mv x13 (x7 * x5) L ++ B) σ2 := by
    intro σ1 B hA hl
    obtain ⟨b1, b2, b3⟩ := id hA
    simp only [List.length_append] at hl b2
    have c1 : At (CE σ1) (t + A.length) L := b3.l.rt
    have c2 : At (CE σ1) (t + A.length + L.length) B := by
      have := b3.rt
      rw [List.length_append] at this
      rw [show t + (A.length : Int) + L.length = t + ((A.length + L.length : Nat) : Int) by omega]
      exact this
    have f2 : fl σ1 212 x4 = fl σ 212 x4 := b1.1 _ _ (by decide) (by decide) (by decide)
    have f3 : el σ1 (fl σ 212 x4) x9 = o := by rw [b1.2.2.1 _ _ (by omega)]; exact o5.1
    obtain ⟨σ2, q1, q2, q3, q4, q5⟩ := ck_seq155 (N := N) (π := π) (R := R) (rec29 := rec29) (x1 := x1) (x2 := x2) (x4 := x4) (x5 := x5) (x7 := x7) (x9 := x9) (x11 := x11) (x13 := x13) (x16 := t + A.length + L.length) L N σ1 (t + A.length) (by omega) c1 (by omega) rfl (by omega) o1 (by rw [f2]; exact o2) (by rw [f2]; exact o3) (by rw [f2]; exact o4) (by rw [f2, f3]; exact o5.2)
    refine ⟨σ2, ?_, b1.tr q2 (by omega), ?_, ?_⟩
    · rw [Rw_sequence_151, q1, f2, f3]
    · rw [q3, b2]; simp only [List.length_append, mv_len]
    · refine At.app (At.app (q2.at b3.l.l (by omega)) q4) (CE.of (fun b j j1 j2 => q5 b j ?_) ?_)
      · simp only [List.length_append, mv_len] at j1; omega
      · rw [show t + (((A ++ mv x13 (x7 * x5) L).length : Nat) : Int) = t + A.length + L.length by simp only [List.length_append, mv_len]; omega]
        exact c2
  intro m
  induction m with
  | zero =>
    intro n k σ1 B hn hA hk k1 hl
    cases n with
    | zero => omega
    | succ n =>
      obtain ⟨b1, b2, b3⟩ := id hA
      have f2 : fl σ1 212 x4 = fl σ 212 x4 := b1.1 _ _ (by decide) (by decide) (by decide)
      have f3 : el σ1 (fl σ 212 x4) x9 = o := by rw [b1.2.2.1 _ _ (by omega)]; exact o5.1
      have i3 := o5.2
      obtain ⟨σ2, q1, q2⟩ := fin σ1 B hA (by omega)
      refine ⟨σ2, ?_, by rw [repL, List.append_nil]; exact q2⟩
      rw [Rw_sequence_100, grd_t o1, f2, grd_t o2, grd_t o3, grd_t (by exact ⟨by omega, by omega⟩), f3, grd_t o5.2, if_neg (by omega)]
      exact q1
  | succ m ih =>
    intro n k σ1 B hn hA hk k1 hl
    cases n with
    | zero => omega
    | succ n =>
      obtain ⟨b1, b2, b3⟩ := id hA
      have f2 : fl σ1 212 x4 = fl σ 212 x4 := b1.1 _ _ (by decide) (by decide) (by decide)
      have f3 : el σ1 (fl σ 212 x4) x9 = o := by rw [b1.2.2.1 _ _ (by omega)]; exact o5.1
      have i3 := o5.2
      have e3 : ((m + 1 : Nat) : Int) * L.length = m * L.length + L.length := by rw [Int.natCast_add, Int.add_mul]; omega
      rw [e3] at hl
      have mp : 0 ≤ (m : Int) * L.length := Int.mul_nonneg (by omega) (by omega)
      simp only [List.length_append] at hl b2
      by_cases hL : L = []
      · subst hL
        obtain ⟨σ2, q1, q2⟩ := fin σ1 B hA (by simp only [List.length_append]; omega)
        refine ⟨σ2, ?_, by rw [repL_nil, List.append_nil]; exact q2⟩
        rw [Rw_sequence_100, grd_t o1, f2, grd_t o2, grd_t o3, grd_t (by exact ⟨by omega, by omega⟩), f3, grd_t o5.2, if_pos (by omega), grd_t (by simp only [List.length_nil]; exact ⟨by omega, by omega⟩), grd_t (by exact ⟨by omega, by omega⟩), if_neg (by simp only [List.length_nil]; omega)]
        exact q1
      · have lp : 0 < L.length := List.length_pos_iff.2 hL
        have c1 : At (CE σ1) (t + A.length) L := b3.l.rt
        obtain ⟨σ2, p1, p2, p3, p4⟩ := c_pushAgain (N := N) (π := π) (k := x13) (b := (x7 + k * x11) * x5) (to := t + A.length + L.length) L N σ1 (t + A.length) (by omega) c1 (by omega) rfl (by rw [b2]; omega) (by rw [b2]; omega)
        have hA2 := hA.add p2 (by rw [p3, mv_len]) p4
        rw [List.append_assoc] at hA2
        obtain ⟨σ3, z1, z2⟩ := ih n (k + 1) σ2 (B ++ mv x13 ((x7 + k * x11) * x5) L) (by omega) hA2 (by omega) (by omega) (by simp only [List.length_append, mv_len]; omega)
        refine ⟨σ3, ?_, ?_⟩
        · rw [Rw_sequence_100, grd_t o1, f2, grd_t o2, grd_t o3, grd_t (by exact ⟨by omega, by omega⟩), f3, grd_t o5.2, if_pos (by omega), grd_t (by exact ⟨by omega, by omega⟩), grd_t (by exact ⟨by omega, by omega⟩), if_pos (by omega), Es_pushAgain, p1, Option.bind_some]
          exact z1
        · rw [repL]
          rw [show x7 + k * x11 + x11 = x7 + (k + 1) * x11 by rw [Int.add_mul]; omega]
          simp only [List.append_assoc] at z2 ⊢
          exact z2
theorem kidF_drop {τ : St} (a : Int) (n : Nat) : kidF τ a (n + 1) = (el τ 58 a, el τ 57 a % 32, el τ 57 a / 32) :: kidF τ (a + 1) n := rfl
theorem ck_seq_lp (h : PH N π τ d σ r p c) {G : Int} (hG : 1 ≤ G ∧ G ≤ 1000000) (hW : WA π σ τ (fl σ 100 r) p) (hGp : gr τ p = wS (kl τ p) * G) (hk : ∀ k ∈ kl τ p, (1 ≤ k.2.1 ∧ k.2.1 ≤ 31) ∧ (1 ≤ k.2.2 ∧ k.2.2 ≤ 1000) ∧ gr τ k.1 ∣ G ∧ rc τ k.1 ≤ rc τ p ∧ wk τ k.1 ≤ wk τ p) : ∀ (m n : Nat) (i a : Int) (σ1 : St) (A : List Evt), m < n → AC σ (fl σ 46 10) A σ1 → 0 ≤ i → i + m = el τ 64 p → A.length + crS τ (kidF τ (el τ 65 p + i) m) ≤ cw τ p → 0 ≤ a → (a + wS (kidF τ (el τ 65 p + i) m)) * G ≤ 1000000 → ∃ σ', Rw_sequence_29 N (Rw_rowC N d) π n σ1 r c (fl σ 100 r) G a i = some σ' ∧ AC σ (fl σ 46 10) (A ++ seqL τ (fun q => rowL τ d q c) G (kidF τ (el τ 65 p + i) m) a) σ'
  | 0, n + 1, i, a, σ1, A, _, hA, i0, hi, _, _, _ => by
    obtain ⟨⟨a1, a2, a3, a4⟩, a5, a6, a7, a8, a9, a10⟩ := h.at hA.1
    have bT := h.2.2.1.2.2.1
    refine ⟨σ1, ?_, by rw [kidF, seqL, List.append_nil]; exact hA⟩
    rw [Rw_sequence_29, grd_t a1, a3, grd_t a6, grd_t (by omega), grd_t (by exact ⟨by omega, by omega⟩), grd_t (by exact ⟨by omega, by omega⟩), if_neg (by omega)]
  | m + 1, n + 1, i, a, σ1, A, hn, hA, i0, hi, hl, ha, hwa => by
    obtain ⟨-, -, -, -, -, -, t0, t1, hN, -⟩ := id h
    obtain ⟨g1, g2⟩ := h.2.2.1.2.1.1
    obtain ⟨⟨a1, a2, a3, a4⟩, a5, a6, a7, a8, a9, a10⟩ := h.at hA.1
    obtain ⟨kc1, kc2, kc3, kc4⟩ := a8 i i0 (by omega)
    have bT := h.2.2.1.2.2.1
    have wl := h.2.2.1.2.1.2.2.2.1
    -- the kid
    have hmem : (kd τ p i, el τ 57 (el τ 65 p + i) % 32, el τ 57 (el τ 65 p + i) / 32) ∈ kl τ p := by
      have := kidF_get (τ := τ) (el τ 64 p).toNat (el τ 65 p) i.toNat (by rw [kidF_len]; omega)
      rw [show ((i.toNat : Nat) : Int) = i by omega] at this
      rw [← this]
      exact List.getElem_mem _
    obtain ⟨⟨w1, w2⟩, ⟨o1, o2⟩, kd3, kd4, kd5⟩ := hk _ hmem
    simp only at w1 w2 o1 o2 kd3 kd4 kd5
    obtain ⟨hw1, hw2, hw3⟩ := hW.2.2.2 i i0 (by omega)
    obtain ⟨⟨kg1, kg2⟩, ⟨kcw1, kcw2⟩, -, ⟨kw1, kw2⟩, -⟩ := (h.kn i0 (by omega)).2
    have gle : gr τ (kd τ p i) ≤ gr τ p := by
      have u1 := dv_le kd3 hG.1
      obtain ⟨b1, b2⟩ := wS_pos (l := kl τ p) (fun k hk' => ⟨(hk k hk').1.1, (hk k hk').2.1.1⟩)
      have u2 := b2 _ hmem
      simp only at u2
      have u3 := Int.mul_le_mul_of_nonneg_right (show 1 ≤ wS (kl τ p) by omega) (show 0 ≤ G by omega)
      rw [hGp]
      omega
    have kc : CB τ d (kd τ p i) c := h.2.2.2.1.same kw1 kd5 (by omega) (by omega)
    have hl : (A.length : Int) + (el τ 57 (el τ 65 p + i) / 32 * cw τ (kd τ p i) + crS τ (kidF τ (el τ 65 p + i + 1) m)) ≤ cw τ p := hl
    have cr0 : 0 ≤ crS τ (kidF τ (el τ 65 p + i + 1) m) := by
      have : ∀ l : List Kid, (∀ k ∈ l, 0 ≤ k.2.2 ∧ 0 ≤ cw τ k.1) → 0 ≤ crS τ l := by
        intro l
        induction l with
        | nil => intro _; exact Int.le_refl _
        | cons x l ih =>
          intro hx
          have := ih (fun y hy => hx y (by simp [hy]))
          have := Int.mul_nonneg (hx x (by simp)).1 (hx x (by simp)).2
          rw [crS]; omega
      refine this _ (fun k hk' => ?_)
      obtain ⟨j, j0, j1, rfl⟩ := kidF_mem hk'
      have hm2 : (kd τ p (i + 1 + j), el τ 57 (el τ 65 p + (i + 1 + j)) % 32, el τ 57 (el τ 65 p + (i + 1 + j)) / 32) ∈ kl τ p := by
        have := kidF_get (τ := τ) (el τ 64 p).toNat (el τ 65 p) (i + 1 + j).toNat (by rw [kidF_len]; omega)
        rw [show (((i + 1 + j).toNat : Nat) : Int) = i + 1 + j by omega] at this
        rw [← this]
        exact List.getElem_mem _
      have e : el τ 65 p + i + 1 + j = el τ 65 p + (i + 1 + j) := by omega
      rw [e]
      have := (hk _ hm2).2.1.1
      simp only at this
      exact ⟨by show 0 ≤ el τ 57 (el τ 65 p + (i + 1 + j)) / 32; omega, (h.kn (i := i + 1 + j) (by omega) (by omega)).2.2.1.1⟩
    have oc : cw τ (kd τ p i) ≤ el τ 57 (el τ 65 p + i) / 32 * cw τ (kd τ p i) := by
      have := Int.mul_le_mul_of_nonneg_right o1 kcw1
      omega
    have pm := phi_mono kd5 wl.2
    obtain ⟨aE, aT, aA⟩ := id hA
    obtain ⟨σ2, q1, q2, q3, q4⟩ := h.kid aE i0 (by omega) kc (by omega) (by omega)
    have gl := (row_good d (kd τ p i) c (h.kn i0 (by omega)).1).1
    have hA2 := hA.add q2 q3 q4
    have ph := phi_lo (show 0 ≤ wk τ (kd τ p i) by omega)
    have lo : (el τ 57 (el τ 65 p + i) / 32) * ((rowL τ d (kd τ p i) c).length : Int) ≤ el τ 57 (el τ 65 p + i) / 32 * cw τ (kd τ p i) := Int.mul_le_mul_of_nonneg_left gl (by omega)
    have lo1 : ((rowL τ d (kd τ p i) c).length : Int) ≤ el τ 57 (el τ 65 p + i) / 32 * (rowL τ d (kd τ p i) c).length := by
      have := Int.mul_le_mul_of_nonneg_right o1 (show (0 : Int) ≤ (rowL τ d (kd τ p i) c).length by omega)
      omega
    have om : (((el τ 57 (el τ 65 p + i) / 32 - 1).toNat : Nat) : Int) = el τ 57 (el τ 65 p + i) / 32 - 1 := Int.toNat_of_nonneg (by omega)
    have omul : (el τ 57 (el τ 65 p + i) / 32 - 1) * ((rowL τ d (kd τ p i) c).length : Int) = el τ 57 (el τ 65 p + i) / 32 * (rowL τ d (kd τ p i) c).length - (rowL τ d (kd τ p i) c).length := by rw [Int.sub_mul]; omega
    obtain ⟨σ3, z1, z2⟩ := ck_seq100 (N := N) (π := π) (R := Rw_rowC N d) (rec29 := Rw_sequence_29 N (Rw_rowC N d) π n) (x1 := r) (x2 := c) (x4 := fl σ 100 r) (x5 := G) (x7 := a) (x9 := i) (x11 := el τ 57 (el τ 65 p + i) % 32) (x13 := el τ 57 (el τ 65 p + i) % 32 * (G / gr τ (kd τ p i))) (t := fl σ 46 10) (o := el τ 57 (el τ 65 p + i) / 32) (A := A) (L := rowL τ d (kd τ p i) c) (σ := σ) hN t0 a5 hW.2.1.1 ⟨i0, by have := hW.2.1.2.1; omega, by omega⟩ (by have := hW.2.1.2.2; omega) ⟨hw2, ⟨by omega, by omega⟩⟩ (el τ 57 (el τ 65 p + i) / 32 - 1).toNat N 1 σ2 [] (by omega) (by rw [List.append_nil]; exact hA2) (by omega) (by omega) (by
      rw [om, omul]
      simp only [List.length_append, List.length_nil]
      omega)
    rw [List.append_nil, List.append_assoc] at z2
    have er : mv (el τ 57 (el τ 65 p + i) % 32 * (G / gr τ (kd τ p i))) (a * G) (rowL τ d (kd τ p i) c) ++ repL (rowL τ d (kd τ p i) c) (el τ 57 (el τ 65 p + i) % 32 * (G / gr τ (kd τ p i))) G (el τ 57 (el τ 65 p + i) % 32) (el τ 57 (el τ 65 p + i) / 32 - 1).toNat (a + 1 * (el τ 57 (el τ 65 p + i) % 32)) = repL (rowL τ d (kd τ p i) c) (el τ 57 (el τ 65 p + i) % 32 * (G / gr τ (kd τ p i))) G (el τ 57 (el τ 65 p + i) % 32) (el τ 57 (el τ 65 p + i) / 32).toNat a := by
      rw [show (el τ 57 (el τ 65 p + i) / 32).toNat = (el τ 57 (el τ 65 p + i) / 32 - 1).toNat + 1 by omega, repL, Int.one_mul]
    rw [er] at z2
    have wst : wS (kidF τ (el τ 65 p + i) (m + 1)) = el τ 57 (el τ 65 p + i) % 32 * (el τ 57 (el τ 65 p + i) / 32) + wS (kidF τ (el τ 65 p + i + 1) m) := rfl
    have wo : 0 ≤ el τ 57 (el τ 65 p + i) % 32 * (el τ 57 (el τ 65 p + i) / 32) := Int.mul_nonneg (by omega) (by omega)
    obtain ⟨σ', y1, y2⟩ := ck_seq_lp h hG hW hGp hk m n (i + 1) (a + el τ 57 (el τ 65 p + i) % 32 * (el τ 57 (el τ 65 p + i) / 32)) σ3 _ (by omega) z2 (by omega) (by omega) (by
      rw [show el τ 65 p + (i + 1) = el τ 65 p + i + 1 by omega, List.length_append, Int.natCast_add, repL_len, Int.toNat_of_nonneg (by omega)]
      omega) (by omega) (by
      rw [wst] at hwa
      rw [show el τ 65 p + (i + 1) = el τ 65 p + i + 1 by omega, Int.add_assoc]
      exact hwa)
    refine ⟨σ', ?_, ?_⟩
    · have fw : fl σ1 211 (fl σ 100 r) = fl σ 211 (fl σ 100 r) := a9 211 (by omega)
      have ew : el σ1 (fl σ 211 (fl σ 100 r)) i = el τ 57 (el τ 65 p + i) % 32 := by
        rw [aE.2.2.1 _ _ (by have := hW.1.2.2; omega)]; exact hw1
      rw [Rw_sequence_29, grd_t a1, a3, grd_t a6, grd_t (by omega), grd_t (by exact ⟨by omega, by omega⟩), grd_t (by exact ⟨by omega, by omega⟩), if_pos (by omega), grd_t (by exact ⟨by omega, by omega, by omega⟩), bnd, kc1, grd_t a5, fw, grd_t hW.1.1, grd_t (by exact ⟨i0, by have := hW.1.2.1; omega, by omega⟩), ew, grd_t (by exact ⟨by omega, by omega⟩), bnd, grd_t kc2, grd_t (by exact ⟨by omega, by omega⟩), kc3, grd_t (by exact ⟨by omega, by omega⟩), grd_t (by omega), bnd, td_pos (by omega), q1, Option.bind_some, aT, q3, aT]
      rw [z1]
      exact y1
    · rw [kidF_drop, seqL, ← List.append_assoc]
      rw [show el τ 65 p + (i + 1) = el τ 65 p + i + 1 by omega] at y2
      exact y2
end CK3
