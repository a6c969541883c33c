/-! rows of the class: rotated, drawn, plied -/
theorem At.sh {α : Type} {Q Q' : Int → α → Prop} {s : Int} : ∀ {l : List α} {a : Int}, (∀ i e, a ≤ i → i < a + l.length → Q (i + s) e → Q' i e) → At Q (a + s) l → At Q' a l
  | [], _, _, _ => trivial
  | e :: l, a, hq, h => by
    refine ⟨hq a e (Int.le_refl _) (by simp only [List.length_cons]; omega) h.1, At.sh (s := s) (fun i e' h1 h2 h3 => hq i e' (by omega) (by simp only [List.length_cons]; omega) h3) ?_⟩
    rw [show a + 1 + s = a + s + 1 by omega]
    exact h.2
theorem rtl_len (n : Nat) (l : List Evt) : (rtl n l).length = l.length := by
  unfold rtl
  simp only [List.length_append, List.length_drop, List.length_take]
  rcases Nat.eq_zero_or_pos l.length with h0 | h0
  · omega
  · have := Nat.mod_lt n h0
    omega
/-- sources of a rotation, one behind the other -/
theorem rtl_at {Q : Int → Evt → Prop} {L : List Evt} {b many : Int} (hb : 0 ≤ b) (hm : (L.length : Int) = many) (h0 : 0 < many) (h : At Q 0 L) : At (fun j g => Q ((j + b) % many) g) 0 (rtl b.toNat L) := by
  have hs : ((b.toNat % L.length : Nat) : Int) = b % many := by rw [Int.natCast_emod, hm, Int.toNat_of_nonneg hb]
  have s0 := Int.emod_nonneg b (show many ≠ 0 by omega)
  have s1 := Int.emod_lt_of_pos b h0
  have d1 := Int.emod_add_mul_ediv b many
  have split : L = L.take (b.toNat % L.length) ++ L.drop (b.toNat % L.length) := (List.take_append_drop _ _).symm
  have h2 := h
  rw [split] at h2
  have lt : ((L.take (b.toNat % L.length)).length : Int) = b % many := by rw [List.length_take]; omega
  have ld : ((L.drop (b.toNat % L.length)).length : Int) = many - b % many := by rw [List.length_drop]; omega
  have key : ∀ j : Int, 0 ≤ j → j < many → (j + b) % many = if j + b % many < many then j + b % many else j + b % many - many := by
    intro j j0 j1
    split
    · rw [show j + b = (j + b % many) + many * (b / many) by omega, Int.add_mul_emod_self_left]
      exact Int.emod_eq_of_lt (by omega) (by omega)
    · rw [show j + b = (j + b % many - many) + many * (b / many + 1) by rw [Int.mul_add]; omega, Int.add_mul_emod_self_left]
      exact Int.emod_eq_of_lt (by omega) (by omega)
  unfold rtl
  refine At.app ?_ ?_
  · refine At.sh (s := b % many) (fun i e i0 i1 hq => ?_) (by have := h2.rt; rw [lt] at this; rw [Int.zero_add] at this ⊢; exact this)
    rw [key i i0 (by omega), if_pos (by omega)]
    exact hq
  · rw [ld]
    refine At.sh (s := b % many - many) (fun i e i0 i1 hq => ?_) (by rw [show 0 + (many - b % many) + (b % many - many) = 0 by omega]; exact h2.l)
    rw [key i (by omega) (by omega), if_neg (by omega), show i + b % many - many = i + (b % many - many) by omega]
    exact hq
section CK7
variable {N : Nat} {π : Sh} {τ : St} {d : Nat} {σ : St} {r p c : Int}
theorem c_rot_lp {m b many : Int} (h0 : 0 ≤ m) (hb : 0 ≤ b ∧ b ≤ 100000) (h2 : many ≤ 1024) (hp : 0 < many) (h3 : m + many ≤ 6000) : ∀ (l f : List Evt) (n : Nat) (σ1 : St) (K : List Evt), l.length < n → l.length = f.length → At (CE σ1) m K → At (CE σ1) (m + K.length) l → At (fun j g => SE σ1 ((j + b) % many) g) K.length f → K.length + l.length = many → ∃ σ2, Es_rotateValues_28 N π n σ1 m b many K.length = some σ2 ∧ (∀ f i, fl σ2 f i = fl σ1 f i) ∧ (∀ a j, a < 13 ∨ 15 < a ∨ j < m → el σ2 a j = el σ1 a j) ∧ At (CE σ2) m (K ++ List.zipWith (fun e (g : Evt) => (e.1, e.2.1, g.2.2)) l f)
  | [], f, n + 1, σ1, K, _, hf, hK, _, _, h1 => by
    simp only [List.length_nil] at h1
    refine ⟨σ1, ?_, fun _ _ => rfl, fun _ _ _ => rfl, by simpa using hK⟩
    rw [Es_rotateValues_28, grd_t (by exact ⟨by omega, by omega⟩), grd_t (by exact ⟨by omega, by omega⟩), if_neg (by omega)]
  | e :: l, [], n + 1, σ1, K, _, hf, _, _, _, _ => by simp at hf
  | e :: l, g :: f, n + 1, σ1, K, hn, hf, hK, hl, hs, h1 => by
    simp only [List.length_cons] at h1 hn hf
    have m0 := Int.emod_nonneg ((K.length : Int) + b) (show many ≠ 0 by omega)
    have m1 := Int.emod_lt_of_pos ((K.length : Int) + b) hp
    obtain ⟨⟨s1, s2, s3⟩, hs⟩ := hs
    have tk := c_take (N := N) (π := π) (σ := σ1) (x1 := m + K.length) (x2 := ((K.length : Int) + b) % many) (e := g) ⟨by omega, by omega⟩ ⟨by omega, by omega⟩ s3
    have hfr : ∀ a j, a < 13 ∨ 15 < a ∨ j ≠ m + K.length → el (se (se (se σ1 13 (m + K.length) (el σ1 19 (((K.length : Int) + b) % many))) 14 (m + K.length) (el σ1 17 (((K.length : Int) + b) % many))) 15 (m + K.length) (el σ1 18 (((K.length : Int) + b) % many))) a j = el σ1 a j := fun a j ha => by
      simp only [el_se]
      rw [if_neg (by omega), if_neg (by omega), if_neg (by omega)]
    have kk : (K.length : Int) + 1 = ((K ++ [(e.1, e.2.1, g.2.2)]).length : Int) := by simp only [List.length_append, List.length_cons, List.length_nil]; omega
    obtain ⟨σ2, q1, q2, q3, q4⟩ := c_rot_lp h0 hb h2 hp h3 l f n _ (K ++ [(e.1, e.2.1, g.2.2)]) (by omega) (by omega) (At.snoc (CE.of (fun b j j1 j2 => hfr b j (by omega)) hK) (by
        obtain ⟨⟨u1, u2, u3⟩, -⟩ := hl
        unfold CE
        simp only [el_se]
        exact ⟨u1, u2, s3⟩)) (by
        rw [← kk, show m + ((K.length : Int) + 1) = m + K.length + 1 by omega]
        exact CE.of (fun b j j1 j2 => hfr b j (by omega)) hl.2) (by
        rw [← kk]
        refine hs.mono (fun i x _ _ _ hx => ?_)
        unfold SE at hx ⊢
        rw [hfr _ _ (by omega), hfr _ _ (by omega), hfr _ _ (by omega), hfr _ _ (by omega), hfr _ _ (by omega)]
        exact hx) (by simp only [List.length_append, List.length_cons, List.length_nil]; omega)
    refine ⟨σ2, ?_, q2, fun a j ha => (q3 a j ha).trans (hfr a j (by omega)), ?_⟩
    · rw [Es_rotateValues_28, grd_t (by exact ⟨by omega, by omega⟩), grd_t (by exact ⟨by omega, by omega⟩), if_pos (by omega), grd_t (by exact ⟨by omega, by omega⟩), grd_t (by omega), tm_pos (by omega), tk, Option.bind_some, kk]
      exact q1
    · rw [List.zipWith_cons_cons]
      rw [List.append_assoc] at q4
      exact q4
theorem ck_rotate (h : PH N π τ d σ r p c) (hK : el τ 70 p = 19) (hn : NK19 τ p) : HK σ (rowK τ (rowL τ d) p c) (Rw_rotate N (Rw_rowC N d) π σ r c) := by
  obtain ⟨n1, n2, n3, n4⟩ := hn
  obtain ⟨-, -, -, -, -, -, t0, t1, hN, -⟩ := id h
  obtain ⟨⟨a1, a2, a3, a4⟩, a5, a6, a7, a8, a9, a10⟩ := h.at (EF.rf 0 σ)
  obtain ⟨σ2, q1, q2⟩ := h.kid0 (by omega) n3 n4.1 n4.2.2
  obtain ⟨⟨b1, b2, b3, b4⟩, b5, b6, b7, b8, b9, b10⟩ := h.at q2.1
  have ea : fl σ2 202 (fl σ 100 r) = el τ 69 p := by
    rw [b9 202 (by omega), a10.2.2.1 (by omega) (by omega) (by omega), if_neg (by omega), if_neg (by omega)]
  have gl := (row_good d (kd τ p 0) c (h.kn (i := 0) (by omega) (by omega)).1).1
  have n41 := n4.1
  have cp := h.2.2.1.2.1.2.1.2
  have ph := phi_lo (show 0 ≤ wk τ p by have := h.2.2.1.2.1.2.2.2.1.1; omega)
  have er : rowK τ (rowL τ d) p c = rotL (el τ 69 p).toNat (rowL τ d (kd τ p 0) c) := by
    unfold rowK
    simp only [hK]
    rfl
  obtain ⟨qE, qT, qA⟩ := id q2
  have hd : Rw_rotate N (Rw_rowC N d) π σ r c = Option.bind (Es_rotateValues N π σ2 (fl σ 46 10) (el τ 69 p)) (fun r9 => some r9) := by
    rw [Rw_rotate, grd_t a1, grd_t a6, grd_t (by exact ⟨by omega, by omega, by omega⟩), q1, Option.bind_some, b2, grd_t b5, ea]
  have vm : fl σ2 46 10 - fl σ 46 10 = ((rowL τ d (kd τ p 0) c).length : Int) := by rw [qT]; omega
  rw [hd, er, Es_rotateValues, bnd, vm, grd_t (by exact ⟨by omega, by omega⟩)]
  by_cases he : (rowL τ d (kd τ p 0) c) = []
  · rw [he, if_pos (by simp)]
    rw [he] at q2
    exact AC.hk q2
  · have lp : 0 < (rowL τ d (kd τ p 0) c).length := List.length_pos_iff.2 he
    rw [if_neg (by omega), if_neg (by omega)]
    obtain ⟨σ3, s1, s2, s3, s4⟩ := c_spare (N := N) (π := π) (m := fl σ 46 10) (many := ((rowL τ d (kd τ p 0) c).length : Int)) (by omega) (by omega) t0 qA rfl (by omega)
    have rat := rtl_at (Q := SE σ3) (b := el τ 69 p) n2.1 rfl (by omega) s4
    obtain ⟨σ4, z1, z2, z3, z4⟩ := c_rot_lp (N := N) (π := π) (m := fl σ 46 10) (b := el τ 69 p) (many := ((rowL τ d (kd τ p 0) c).length : Int)) t0 ⟨n2.1, by omega⟩ (by omega) (by omega) (by omega) (rowL τ d (kd τ p 0) c) (rtl (el τ 69 p).toNat (rowL τ d (kd τ p 0) c)) N σ3 [] (by omega) (rtl_len _ _).symm trivial (by
      simp only [List.length_nil]
      rw [show fl σ 46 10 + ((0 : Nat) : Int) = fl σ 46 10 by omega]
      refine qA.mono (fun j e' _ _ _ hx => ?_)
      unfold CE at hx ⊢
      rw [s3 _ _ (by omega), s3 _ _ (by omega), s3 _ _ (by omega), s3 _ _ (by omega), s3 _ _ (by omega)]
      exact hx) rat (by simp)
    rw [s1, Option.bind_some]
    have z1' : Es_rotateValues_28 N π N σ3 (fl σ 46 10) (el τ 69 p) ((rowL τ d (kd τ p 0) c).length : Int) 0 = some σ4 := z1
    rw [z1', Option.bind_some]
    refine ⟨σ4, rfl, ⟨fun f i x y z => ?_, fun hy => ?_, fun a j hj => ?_, fun a j x y hj => ?_⟩, ?_, z4⟩
    · rw [z2, s2, qE.1 f i x y z]
    · unfold KY; rw [z2, z2, s2, s2]; exact qE.2.1 hy
    · rw [z3 a j (by omega), s3 a j (by omega), qE.2.2.1 a j hj]
    · rw [z3 a j (by omega), s3 a j (by omega), qE.2.2.2 a j x y hj]
    · rw [z2, s2, qT]
      unfold rotL
      rw [List.length_zipWith, rtl_len, Nat.min_self]
theorem ite12 (P : Prop) [Decidable P] : (if P then 1 else 2 : Int) = 1 ∨ (if P then 1 else 2 : Int) = 2 := by
  by_cases h : P
  · rw [if_pos h]; exact Or.inl rfl
  · rw [if_neg h]; exact Or.inr rfl
theorem iand_i (x y : Int) : i32 (iand x y) := ⟨Int32.le_toInt _, Int32.toInt_lt _⟩
theorem tmod_i {x : Int} (h : i32 x) : i32 (Int.tmod x 1000) := by
  have := Int.tmod_lt_of_pos x (show (0 : Int) < 1000 by decide)
  have h2 : -1000 < Int.tmod x 1000 := by
    by_cases c : 0 ≤ x
    · have := Int.tmod_nonneg 1000 c
      omega
    · have := Int.tmod_lt_of_pos (-x) (show (0 : Int) < 1000 by decide)
      rw [Int.neg_tmod] at this
      omega
  exact ⟨by omega, by omega⟩
theorem c_draw (hN : 6001 ≤ N) {σ1 : St} {x g q : Int} (hx : 0 ≤ x ∧ x < 1000000000) (hg : 1 ≤ g ∧ g ≤ 1000000) (hq : i32 q) (hs : i32 (fl σ1 161 9)) : Rw_draw N π σ1 c x g q = some (σ1, dice (fl σ1 161 9) c x g q) ∧ i32 (dice (fl σ1 161 9) c x g q) := by
  have gp := gC_pos (x := x) (y := g) (by omega)
  have gl := gC_le (x := x) (y := g) (by omega)
  refine ⟨?_, ?_⟩
  · rw [Rw_draw, c_gcd (by omega) hx.1 (by omega) (by omega) (by omega), Option.bind_some, grd_t (by exact ⟨by omega, by omega⟩), grd_t (by exact ⟨by omega, by omega⟩), grd_t (by omega), bnd, grd_t (by exact ⟨by omega, by omega⟩), bnd, grd_t hs, grd_t hq, bnd, bnd, bnd, bnd, grd_t (iand_i _ _)]
    rfl
  · unfold dice bnd
    exact tmod_i (iand_i _ _)
theorem ck_draws_lp (h : PH N π τ d σ r p c) (hn : NK19 τ p) (hK : el τ 70 p = 21 ∨ el τ 70 p = 22) (hb : 0 ≤ el τ 68 p ∧ el τ 68 p ≤ 2100) (hsd : i32 (fl τ 95 0)) {x5 : Int} (hx5 : x5 = 0 ∨ x5 = 1) {f : Evt → Int} (hf : ∀ e, f e = if (if dice (fl τ 95 0) c e.1 (gr τ p) (1000003 * el τ 68 p) < el τ 69 p then 1 else 0 : Int) = x5 then 1 else 2) : ∀ (l : List Evt) (n : Nat) (σ1 : St) (K : List (Evt × Int)), l.length < n → EF (fl σ 46 10) σ σ1 → fl σ1 46 10 = fl σ 46 10 + (K.length + l.length) → At (CM σ1) (fl σ 46 10) K → At (CE σ1) (fl σ 46 10 + K.length) l → (K.length + l.length : Int) ≤ cw τ p → (∀ e ∈ l, 0 ≤ e.1 ∧ e.1 < 1000000) → (∀ e ∈ K, e.2 = 1 ∨ e.2 = 2) → ∃ σ', Rw_draws_43 N (Rw_rowC N d) π n σ1 r c (fl σ 46 10) x5 (fl σ 46 10 + K.length) = some σ' ∧ AC σ (fl σ 46 10) (((K ++ l.map (fun e => (e, f e))).filter (fun e => decide (e.2 = 1))).map Prod.fst) σ'
  | [], n + 1, σ1, K, _, hE, hT, hA, _, hl, _, hm => by
    obtain ⟨-, -, -, -, -, -, t0, t1, hN, -⟩ := id h
    simp only [List.length_nil] at hT hl
    have ph := phi_lo (show 0 ≤ wk τ p by have := h.2.2.1.2.1.2.2.2.1.1; omega)
    obtain ⟨σ2, q1, q2, q3, q4, q5⟩ := c_chosen (N := N) (π := π) (x := 1) hN (by decide) hA (fun e he => by rcases hm e he with k | k <;> rw [k] <;> decide) t0 (by rw [hT]; simp) (by rw [hT]; omega)
    refine ⟨σ2, ?_, hE.tr q2 (Int.le_refl _), ?_, ?_⟩
    · rw [Rw_draws_43, grd_t (by exact ⟨by omega, by omega⟩), grd_t (by exact ⟨by omega, by omega⟩), if_neg (by omega), q1, Option.bind_some]
    · rw [List.map_nil, List.append_nil, List.length_map, q4]
    · rw [List.map_nil, List.append_nil]
      exact CM.ce q5
  | e :: l, n + 1, σ1, K, hn', hE, hT, hA, ha, hl, hbd, hm => by
    obtain ⟨-, -, -, -, -, hseed, t0, t1, hN, -⟩ := id h
    obtain ⟨n1, n2, n3, n4⟩ := id hn
    obtain ⟨g1, g2⟩ := h.2.2.1.2.1.1
    simp only [List.length_cons] at hT hl hn'
    have ph := phi_lo (show 0 ≤ wk τ p by have := h.2.2.1.2.1.2.2.2.1.1; omega)
    obtain ⟨⟨e1, e2, e3⟩, ha⟩ := ha
    obtain ⟨b1, b2⟩ := hbd e (by simp)
    obtain ⟨⟨a1, a2, a3, a4⟩, a5, a6, a7, a8, a9, a10⟩ := h.at hE
    have ea : fl σ1 202 (fl σ 100 r) = el τ 69 p := by
      rw [a9 202 (by omega), a10.2.2.1 (by omega) (by omega) (by omega), if_neg (by omega), if_neg (by omega)]
    have eb : fl σ1 203 (fl σ 100 r) = 1000003 * el τ 68 p := by
      rw [a9 203 (by omega), a10.2.2.2.1 (by omega), if_neg (by omega), if_pos hK]
    have es : fl σ1 161 9 = fl τ 95 0 := by rw [hE.1 161 9 (by decide) (by decide) (by decide)]; exact hseed
    obtain ⟨dr, di⟩ := c_draw (N := N) (π := π) (c := c) hN (σ1 := σ1) (x := e.1) (g := gr τ p) (q := 1000003 * el τ 68 p) ⟨b1, by omega⟩ ⟨g1, g2⟩ ⟨by omega, by omega⟩ (by rw [es]; exact hsd)
    rw [es] at dr di
    have kk : (K.length : Int) + 1 = ((K ++ [(e, f e)]).length : Int) := by simp only [List.length_append, List.length_cons, List.length_nil]; omega
    have fe : f e = 1 ∨ f e = 2 := by rw [hf]; exact ite12 _
    have hfr : ∀ a j, a ≠ 16 ∨ j ≠ fl σ 46 10 + K.length → el (se σ1 16 (fl σ 46 10 + K.length) (f e)) a j = el σ1 a j := fun a j hj => by
      rw [el_se, if_neg (by omega)]
    obtain ⟨σ', z1, z2⟩ := ck_draws_lp h hn hK hb hsd hx5 hf l n (se σ1 16 (fl σ 46 10 + K.length) (f e)) (K ++ [(e, f e)]) (by omega) (hE.tr (m' := fl σ 46 10 + K.length) (EF.mk (fun _ _ _ => rfl) (fun a j ha => hfr a j (by omega)) (fun a j _ _ hj => hfr a j (by omega))) (by omega)) (by
        show fl σ1 46 10 = _
        rw [hT]; simp only [List.length_append, List.length_cons, List.length_nil]; omega) (At.snoc (CM.of (fun b j j1 j2 => hfr b j (by omega)) hA) ⟨by
          unfold CE
          simp only [el_se]
          exact ⟨e1, e2, e3⟩, el_ses _ _ _ _⟩) (by
        rw [← kk, show fl σ 46 10 + ((K.length : Int) + 1) = fl σ 46 10 + K.length + 1 by omega]
        exact CE.of (fun b j j1 j2 => hfr b j (by omega)) ha) (by simp only [List.length_append, List.length_cons, List.length_nil]; omega) (fun x hx => hbd x (by simp [hx])) (fun x hx => by
          rcases List.mem_append.1 hx with hx | hx
          · exact hm x hx
          · rw [List.mem_singleton.1 hx]; exact fe)
    refine ⟨σ', ?_, ?_⟩
    · rw [Rw_draws_43, grd_t (by exact ⟨by omega, by omega⟩), grd_t (by exact ⟨by omega, by omega⟩), if_pos (by omega), grd_t (by exact ⟨by omega, by omega⟩), grd_t a1, a2, grd_t a5, e1, a4, eb, dr, Option.bind_some, a2, grd_t a5, grd_t di, ea, grd_t (by exact ⟨by omega, by omega⟩)]
      have key : ∀ s0 : Int, s0 = (if dice (fl τ 95 0) c e.1 (gr τ p) (1000003 * el τ 68 p) < el τ 69 p then 1 else 0 : Int) → Rw_draws_96 N (Rw_rowC N d) π (Rw_draws_43 N (Rw_rowC N d) π n) σ1 r c (fl σ 46 10) x5 (fl σ 46 10 + K.length) s0 = some σ' := by
        intro s0 hs0
        rw [Rw_draws_96, grd_t (by rw [hs0]; split <;> decide), grd_t (by rcases hx5 with k | k <;> rw [k] <;> decide)]
        have z1' : Rw_draws_43 N (Rw_rowC N d) π n (se σ1 16 (fl σ 46 10 + K.length) (f e)) r c (fl σ 46 10) x5 (fl σ 46 10 + K.length + 1) = some σ' := by
          rw [show fl σ 46 10 + (K.length : Int) + 1 = fl σ 46 10 + ((K.length : Int) + 1) by omega, kk]; exact z1
        have hfe := hf e
        rw [← hs0] at hfe
        by_cases c1 : s0 = x5
        · rw [if_pos c1] at hfe ⊢
          rw [hfe] at z1'
          rw [Rw_draws_119, grd_t (by exact ⟨by omega, by omega⟩)]
          exact z1'
        · rw [if_neg c1] at hfe ⊢
          rw [hfe] at z1'
          rw [Rw_draws_119, grd_t (by exact ⟨by omega, by omega⟩)]
          exact z1'
      by_cases c1 : dice (fl τ 95 0) c e.1 (gr τ p) (1000003 * el τ 68 p) < el τ 69 p
      · rw [if_pos c1]; exact key 1 (by rw [if_pos c1])
      · rw [if_neg c1]; exact key 0 (by rw [if_neg c1])
    · rw [List.append_assoc] at z2
      exact z2
theorem ck_draws (h : PH N π τ d σ r p c) (hK : el τ 70 p = 21 ∨ el τ 70 p = 22) (hn : NK19 τ p) (hb : 0 ≤ el τ 68 p ∧ el τ 68 p ≤ 2100) (hsd : i32 (fl τ 95 0)) : HK σ (rowK τ (rowL τ d) p c) (Rw_draws N (Rw_rowC N d) π σ r c) := by
  obtain ⟨n1, n2, n3, n4⟩ := id hn
  obtain ⟨-, -, -, -, -, -, t0, t1, hN, -⟩ := id h
  obtain ⟨⟨a1, a2, a3, a4⟩, a5, a6, a7, a8, a9, a10⟩ := h.at (EF.rf 0 σ)
  obtain ⟨σ2, q1, q2⟩ := h.kid0 (by omega) n3 n4.1 n4.2.2
  obtain ⟨⟨b1, b2, b3, b4⟩, b5, b6, b7, b8, b9, b10⟩ := h.at q2.1
  have gd := row_good d (kd τ p 0) c (h.kn (i := 0) (by omega) (by omega)).1
  have gl := gd.1
  have n41 := n4.1
  have g2 := h.2.2.1.2.1.1.2
  have ph := phi_lo (show 0 ≤ wk τ p by have := h.2.2.1.2.1.2.2.2.1.1; omega)
  obtain ⟨qE, qT, qA⟩ := id q2
  have k200 : fl σ2 200 (fl σ 100 r) = if el τ 70 p = 21 then 22 else 23 := by
    rw [b9 200 (by omega), a10.1]
    rcases hK with k | k <;> rw [k] <;> rfl
  have run : ∀ x5 : Int, x5 = 0 ∨ x5 = 1 → ∃ σ', Rw_draws_37 N (Rw_rowC N d) π σ2 r c (fl σ 46 10) x5 = some σ' ∧ AC σ (fl σ 46 10) ((rowL τ d (kd τ p 0) c).filter (fun e => decide ((if dice (fl τ 95 0) c e.1 (gr τ p) (1000003 * el τ 68 p) < el τ 69 p then 1 else 0 : Int) = x5))) σ' := by
    intro x5 hx5
    obtain ⟨σ', z1, z2⟩ := ck_draws_lp h hn hK hb hsd hx5 (f := fun e => if (if dice (fl τ 95 0) c e.1 (gr τ p) (1000003 * el τ 68 p) < el τ 69 p then 1 else 0 : Int) = x5 then 1 else 2) (fun _ => rfl) (rowL τ d (kd τ p 0) c) N σ2 [] (by omega) qE (by rw [qT]; simp) trivial (by simpa using qA) (by simp; omega) (fun e he => by
      have := (gd.2.1 e he).1
      omega) (by simp)
    simp only [List.length_nil, List.nil_append] at z1 z2
    rw [show fl σ 46 10 + ((0 : Nat) : Int) = fl σ 46 10 by omega] at z1
    refine ⟨σ', z1, ?_⟩
    have fm : ∀ (P : Evt → Bool) (l : List Evt), ((l.map (fun e => (e, if P e then (1 : Int) else 2))).filter (fun e => decide (e.2 = 1))).map Prod.fst = l.filter P := by
      intro P l
      induction l with
      | nil => rfl
      | cons x l ih =>
        rw [List.map_cons, List.filter_cons, List.filter_cons]
        by_cases hx : P x = true
        · rw [if_pos hx, if_pos (show decide (((x, (1 : Int)) : Evt × Int).2 = 1) = true from rfl), if_pos hx, List.map_cons, ih]
        · rw [if_neg hx, if_neg (show ¬ decide (((x, (2 : Int)) : Evt × Int).2 = 1) = true from (by simp)), if_neg hx]
          exact ih
    have := fm (fun e => decide ((if dice (fl τ 95 0) c e.1 (gr τ p) (1000003 * el τ 68 p) < el τ 69 p then 1 else 0 : Int) = x5)) (rowL τ d (kd τ p 0) c)
    simp only [decide_eq_true_eq] at this
    rw [this] at z2
    exact z2
  have hd : Rw_draws N (Rw_rowC N d) π σ r c = if (if el τ 70 p = 21 then (22 : Int) else 23) = 23 then Rw_draws_37 N (Rw_rowC N d) π σ2 r c (fl σ 46 10) 1 else Rw_draws_37 N (Rw_rowC N d) π σ2 r c (fl σ 46 10) 0 := by
    rw [Rw_draws, grd_t a1, grd_t a6, grd_t (by exact ⟨by omega, by omega, by omega⟩), q1, Option.bind_some, b2, grd_t b5, k200, grd_t (by split <;> decide)]
  rw [hd]
  rcases hK with k | k
  · rw [k, if_neg (by decide)]
    obtain ⟨σ', z1, z2⟩ := run 0 (Or.inl rfl)
    rw [z1]
    have er : rowK τ (rowL τ d) p c = (rowL τ d (kd τ p 0) c).filter (fun e => decide ((if dice (fl τ 95 0) c e.1 (gr τ p) (1000003 * el τ 68 p) < el τ 69 p then 1 else 0 : Int) = 0)) := by
      unfold rowK
      simp only [k]
      show (rowL τ d (kd τ p 0) c).filter _ = _
      congr 1
      funext e
      by_cases c1 : dice (fl τ 95 0) c e.1 (gr τ p) (1000003 * el τ 68 p) < el τ 69 p
      · rw [if_pos c1, decide_eq_true c1]; rfl
      · rw [if_neg c1, decide_eq_false c1]; rfl
    rw [er]
    exact AC.hk z2
  · rw [k, if_pos (by decide)]
    obtain ⟨σ', z1, z2⟩ := run 1 (Or.inr rfl)
    rw [z1]
    have er : rowK τ (rowL τ d) p c = (rowL τ d (kd τ p 0) c).filter (fun e => decide ((if dice (fl τ 95 0) c e.1 (gr τ p) (1000003 * el τ 68 p) < el τ 69 p then 1 else 0 : Int) = 1)) := by
      unfold rowK
      simp only [k]
      show (rowL τ d (kd τ p 0) c).filter _ = _
      congr 1
      funext e
      by_cases c1 : dice (fl τ 95 0) c e.1 (gr τ p) (1000003 * el τ 68 p) < el τ 69 p
      · rw [if_pos c1, decide_eq_true c1]; rfl
      · rw [if_neg c1, decide_eq_false c1]; rfl
    rw [er]
    exact AC.hk z2
end CK7
