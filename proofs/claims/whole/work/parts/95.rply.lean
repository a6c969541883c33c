/-! rows of the reference: plied -/
def plyEu (n o : Int) (e : Evt) : Nat → Int → List Evt
  | 0, _ => []
  | m + 1, k => (e.1 * n + o + k * e.2.1, e.2.1, e.2.2) :: plyEu n o e m (k + 1)
def plyRu (n o : Int) : List Evt → List Evt
  | [] => []
  | e :: l => plyEu n o e n.toNat 0 ++ plyRu n o l
theorem plyEu_flt {n G o : Int} {e : Evt} : ∀ (m : Nat) (k : Int), (plyEu n o e m k).filter (inW 0 G) = plyE n G o e m k
  | 0, _ => rfl
  | m + 1, k => by
    rw [plyEu, plyE, List.filter_cons, plyEu_flt m (k + 1)]
    by_cases c : 0 ≤ e.1 * n + o + k * e.2.1 ∧ e.1 * n + o + k * e.2.1 < G
    · have hi : inW 0 G ((e.1 * n + o + k * e.2.1, e.2.1, e.2.2) : Evt) = true := decide_eq_true c
      rw [if_pos hi, if_pos c]; rfl
    · have hi : ¬ inW 0 G ((e.1 * n + o + k * e.2.1, e.2.1, e.2.2) : Evt) = true := fun h => c (of_decide_eq_true h)
      rw [if_neg hi, if_neg c]; rfl
theorem plyRu_flt {n G o : Int} : ∀ (l : List Evt), (plyRu n o l).filter (inW 0 G) = plyR n G o l
  | [] => rfl
  | e :: l => by rw [plyRu, List.filter_append, plyEu_flt, plyRu_flt l, plyR]
theorem plyEu_len {n o : Int} {e : Evt} : ∀ (m : Nat) (k : Int), (plyEu n o e m k).length = m
  | 0, _ => rfl
  | m + 1, k => by rw [plyEu, List.length_cons, plyEu_len]
theorem plyRu_len {n o : Int} (hn : 0 ≤ n) : ∀ (l : List Evt), ((plyRu n o l).length : Int) = n * l.length
  | [] => by simp [plyRu]
  | e :: l => by
    rw [plyRu, List.length_append, plyEu_len, List.length_cons, Int.natCast_add, plyRu_len hn l, Int.natCast_add, Int.mul_add]
    omega
section RZ
variable {N : Nat} {τ0 : St} {d : Nat} {k p c : Int}
/-- the parts of one event -/
theorem r_plyE {rec16 : St → Int → Int → Int → Int → Option St} {n x3 x4 i g0 cG j o : Int} {y : Evt} (hn : 1 ≤ n ∧ n ≤ 64) (ho : (y.1 + j * g0) * n = y.1 * n + o + cG) : ∀ (m f : Nat) (q : Int) (τ : St) (M : List Evt) (s : Int), m < f → 0 ≤ q → q + m = n → RE τ i (y.1 + j * g0, y.1 + y.2.1 + j * g0, y.2.2) → 0 ≤ i → i < s → 0 ≤ s → At (RE τ) s M → fl τ 84 0 = s + M.length → fl τ 84 0 + m ≤ 29999 → ∃ τ', r_ply_43 N rec16 f τ n x3 x4 i y.2.1 q = rec16 τ' n x3 x4 (i + 1) ∧ RP (s + M.length) τ τ' ∧ fl τ' 84 0 = fl τ 84 0 + m ∧ At (RE τ') s (M ++ ab cG (plyEu n o y m q))
  | 0, f + 1, q, τ, M, s, _, q0, hq, _, _, _, _, hM, hT, h6 => by
    refine ⟨τ, ?_, RP.rf _ _, by simp, by show At (RE τ) s (M ++ []); rw [List.append_nil]; exact hM⟩
    rw [r_ply_43, grd_t (by exact ⟨by omega, by omega⟩), grd_t (by exact ⟨by omega, by omega⟩), if_neg (by omega)]
  | m + 1, f + 1, q, τ, M, s, hmf, q0, hq, hi, i0, i1, s0, hM, hT, h6 => by
    obtain ⟨u1, u2, u3, u4, u5, u6⟩ := id hi
    simp only at u1 u2 u3 u4 u5 u6
    obtain ⟨τ1, p1, p2, p3, p4, p5⟩ := r_emit' (N := N) (τ := τ) (b := (y.1 + j * g0) * n + q * y.2.1) (e := (y.1 + j * g0) * n + (q + 1) * y.2.1) (x5 := y.2.2.1) (x6 := y.2.2.2.1) (x7 := y.2.2.2.2.1) (x8 := y.2.2.2.2.2) (by omega) (by omega)
    have q1 : (q + 1) * y.2.1 = q * y.2.1 + y.2.1 := by rw [Int.add_mul]; omega
    have hi1 : RE τ1 i (y.1 + j * g0, y.1 + y.2.1 + j * g0, y.2.2) := by
      unfold RE
      rw [p5 _ _ (by omega), p5 _ _ (by omega), p5 _ _ (by omega), p5 _ _ (by omega), p5 _ _ (by omega), p5 _ _ (by omega)]
      exact hi
    have M1 : At (RE τ1) s (M ++ [(y.1 * n + o + q * y.2.1 + cG, y.1 * n + o + q * y.2.1 + y.2.1 + cG, y.2.2)]) := by
      refine At.snoc (p2.at hM (by omega)) ?_
      rw [← hT]
      rw [ho, q1] at p4
      rw [show y.1 * n + o + cG + q * y.2.1 = y.1 * n + o + q * y.2.1 + cG by omega, show y.1 * n + o + cG + (q * y.2.1 + y.2.1) = y.1 * n + o + q * y.2.1 + y.2.1 + cG by omega] at p4
      exact p4
    obtain ⟨τ', z1, z2, z3, z4⟩ := r_plyE (rec16 := rec16) (x3 := x3) (x4 := x4) hn ho m f (q + 1) τ1 _ s (by omega) (by omega) (by omega) hi1 i0 i1 s0 M1 (by rw [p3, hT]; simp only [List.length_append, List.length_cons, List.length_nil]; omega) (by omega)
    refine ⟨τ', ?_, ?_, by omega, ?_⟩
    · rw [r_ply_43, grd_t (by exact ⟨by omega, by omega⟩), grd_t (by exact ⟨by omega, by omega⟩), if_pos (by omega), grd_t (by exact ⟨by omega, by omega⟩), u1, u3, u4, u5, u6, p1, Option.bind_some]
      exact z1
    · rw [hT] at p2
      refine p2.tr z2 ?_
      simp only [List.length_append, List.length_cons, List.length_nil]; omega
    · rw [List.append_assoc] at z4
      exact z4
theorem r_ply141 {s t : Int} : ∀ (l : List (Evt × Vl)) (f : Nat) (τ : St) (K : List (Evt × Vl)), l.length < f → 0 ≤ s → s ≤ t → At (RM τ) s K → At (RM τ) (t + K.length) l → t + (K.length + l.length) ≤ 29999 → ∃ τ', r_ply_141 N f τ s t ((K.length : Int) + l.length) K.length = some τ' ∧ RP s τ τ' ∧ fl τ' 84 0 = s + (K.length + l.length) ∧ At (RM τ') s (K ++ l)
  | [], f + 1, τ, K, _, s0, st, hK, _, h6 => by
    simp only [List.length_nil] at h6
    refine ⟨sf τ 84 0 (s + ((K.length : Int) + ((0 : Nat) : Int))), ?_, ⟨fun f j hf => fl_sfn _ _ _ _ hf, fun _ _ _ => rfl, fun _ _ _ => rfl⟩, fl_sfs _ _ _ _, by rw [List.append_nil]; exact hK⟩
    simp only [List.length_nil]
    rw [r_ply_141, grd_t (by exact ⟨by omega, by omega⟩), grd_t (by exact ⟨by omega, by omega⟩), if_neg (by omega)]
  | x :: l, f + 1, τ, K, hf, s0, st, hK, hl, h6 => by
    simp only [List.length_cons] at h6 hf
    obtain ⟨τ1, p1, p2, p3, p4, p5⟩ := r_copied (N := N) (m := s) s0 (show s ≤ s + (K.length : Int) by omega) (show s + (K.length : Int) ≤ t + K.length by omega) (by omega) hl.1
    have kk : (K.length : Int) + 1 = ((K ++ [x]).length : Int) := by simp only [List.length_append, List.length_cons, List.length_nil]; omega
    obtain ⟨τ', z1, z2, z3, z4⟩ := r_ply141 (s := s) (t := t) l f τ1 (K ++ [x]) (by omega) s0 st ((RM.of (fun b j _ j2 => p5 b j (by omega)) hK).snoc p4) (by
      rw [← kk, show t + ((K.length : Int) + 1) = t + K.length + 1 by omega]
      exact RM.of (fun b j j1 _ => p5 b j (by omega)) hl.2) (by rw [← kk]; omega)
    rw [← kk] at z1 z3
    refine ⟨τ', ?_, p3.tr z2 (Int.le_refl _), ?_, ?_⟩
    · simp only [List.length_cons]
      rw [r_ply_141, grd_t (by exact ⟨by omega, by omega⟩), grd_t (by exact ⟨by omega, by omega⟩), if_pos (by omega), p1, Option.bind_some, show (K.length : Int) + ((l.length + 1 : Nat) : Int) = (K.length : Int) + 1 + l.length by omega]
      exact z1
    · simp only [List.length_cons]
      rw [z3]; omega
    · rw [List.append_assoc] at z4
      exact z4
/-- all events of a row, behind it -/
theorem r_ply16 {n g0 cG j o s : Int} {L : List Evt} (hN : 300000 ≤ N) (hn : 1 ≤ n ∧ n ≤ 64) (ho : ∀ x : Int, (x + j * g0) * n = x * n + o + cG) (s0 : 0 ≤ s) (hr : s + L.length + n * L.length ≤ 29999) : ∀ (l : List Evt) (f : Nat) (τ : St) (K M : List Evt), l.length < f → L = K ++ l → At (RE τ) s (ab (j * g0) L) → At (RE τ) (s + L.length) M → fl τ 84 0 = s + L.length + M.length → (M.length : Int) = n * K.length → ∃ τ', r_ply_16 N f τ n s (s + L.length) (s + K.length) = some τ' ∧ RP s τ τ' ∧ fl τ' 84 0 = s + (M ++ ab cG (plyRu n o l)).length ∧ At (RE τ') s (M ++ ab cG (plyRu n o l))
  | [], f + 1, τ, K, M, _, hK, hL, hM, hT, hMl => by
    rw [List.append_nil] at hK
    subst hK
    obtain ⟨lm, u1, u2⟩ := RE.rm hM
    have ll : lm.length = M.length := by rw [← List.length_map (f := Prod.fst), u2]
    obtain ⟨τ', z1, z2, z3, z4⟩ := r_ply141 (N := N) (s := s) (t := s + L.length) lm N τ [] (by omega) s0 (by omega) trivial (by simp only [List.length_nil]; rw [show s + (L.length : Int) + ((0 : Nat) : Int) = s + L.length by omega]; exact u1) (by simp only [List.length_nil]; omega)
    simp only [List.length_nil, List.nil_append] at z1 z3 z4
    have z4' := RM.re z4
    rw [u2] at z4'
    refine ⟨τ', ?_, z2, ?_, ?_⟩
    · rw [r_ply_16, grd_t (by exact ⟨by omega, by omega⟩), grd_t (by exact ⟨by omega, by omega⟩), if_neg (by omega), bnd, hT, show s + (L.length : Int) + M.length - (s + L.length) = M.length by omega]
      rw [ll, show ((0 : Nat) : Int) + (M.length : Int) = M.length by omega] at z1
      exact z1
    · show fl τ' 84 0 = s + ((M ++ []).length : Int)
      rw [List.append_nil, z3, ll]; omega
    · show At (RE τ') s (M ++ [])
      rw [List.append_nil]; exact z4'
  | y :: l, f + 1, τ, K, M, hf, hK, hL, hM, hT, hMl => by
    have Ll : (L.length : Int) = K.length + (l.length + 1) := by rw [hK, List.length_append, List.length_cons]; omega
    simp only [List.length_cons] at hf
    have al : n * (L.length : Int) = n * K.length + n + n * l.length := by
      rw [Ll]
      simp only [Int.mul_add]
      omega
    have al0 : 0 ≤ n * (l.length : Int) := Int.mul_nonneg (by omega) (by omega)
    have al1 : 0 ≤ n * (K.length : Int) := Int.mul_nonneg (by omega) (by omega)
    have hy : RE τ (s + K.length) (y.1 + j * g0, y.1 + y.2.1 + j * g0, y.2.2) := by
      rw [hK, ab_app] at hL
      have := hL.rt
      rw [ab_len] at this
      exact this.1
    obtain ⟨u1, u2, -⟩ := id hy
    simp only at u1 u2
    have tn : (n.toNat : Int) = n := Int.toNat_of_nonneg (by omega)
    obtain ⟨τ1, p1, p2, p3, p4⟩ := r_plyE (N := N) (rec16 := r_ply_16 N f) (x3 := s) (x4 := s + L.length) (i := s + K.length) (y := y) hn (ho y.1) n.toNat N 0 τ M (s + L.length) (by omega) (Int.le_refl _) (by omega) hy (by omega) (by omega) (by omega) hM hT (by omega)
    have kk : (K.length : Int) + 1 = ((K ++ [y]).length : Int) := by simp only [List.length_append, List.length_cons, List.length_nil]; omega
    obtain ⟨τ', z1, z2, z3, z4⟩ := r_ply16 hN hn ho s0 hr l f τ1 (K ++ [y]) (M ++ ab cG (plyEu n o y n.toNat 0)) (by omega) (by rw [hK, List.append_assoc]; rfl) (p2.at hL (by rw [ab_len]; omega)) p4 (by rw [p3, hT, List.length_append, ab_len, plyEu_len]; omega) (by
        rw [← kk, List.length_append, ab_len, plyEu_len, Int.natCast_add, hMl, Int.mul_add]
        omega)
    refine ⟨τ', ?_, (RP.tr (m := s) (m' := s) ⟨p2.1, p2.2.1, fun a j hj => p2.2.2 a j (by omega)⟩ z2 (Int.le_refl _)), ?_, ?_⟩
    · rw [r_ply_16, grd_t (by exact ⟨by omega, by omega⟩), grd_t (by exact ⟨by omega, by omega⟩), if_pos (by omega), grd_t (by exact ⟨by omega, by omega⟩), bnd, u1, u2, show y.1 + y.2.1 + j * g0 - (y.1 + j * g0) = y.2.1 by omega, p1]
      rw [← kk, show s + ((K.length : Int) + 1) = s + K.length + 1 by omega] at z1
      exact z1
    · rw [z3, plyRu, ab_app, List.append_assoc]
    · rw [plyRu, ab_app]
      rw [List.append_assoc] at z4
      exact z4
theorem rk_plyrows {τ : St} (h : PR2 N τ0 d k p c (fl τ 84 0)) (hK : el τ0 70 p = 18) (hn : NK18 τ0 p) : ∀ (m : Nat) (j : Int) (τ2 : St) (B : List Evt), NR τ0 τ k p c (fl τ 84 0) (ab (c * gr τ0 p) B) τ2 → el τ2 34 k = j → el τ2 33 k = c → B.length + m * (el τ0 69 p * cw τ0 (kd τ0 p 0)) ≤ cw τ0 p → c + 1 - j = m → -65 ≤ j - c → Gu 0 (gr τ0 p) (rc τ0 p * gr τ0 p) B → ∃ R, r_rows_145 N τ2 k p = R ∧ ((∃ τ3, R = some (τ3, 0) ∧ NR τ0 τ k p c (fl τ 84 0) (ab (c * gr τ0 p) (sortE (B ++ plyL (rowL τ0 d (kd τ0 p 0)) (el τ0 69 p) (gr τ0 p) c m j))) τ3) ∨ (∃ τ1 κ τ3 M, R = some (τ1, 1) ∧ κ ≤ sbd d ∧ Rnd N κ τ1 τ3 ∧ NR τ0 τ k p c (fl τ 84 0) M τ3 ∧ GO N τ k (fl τ 84 0) (ab (c * gr τ0 p) (sortE (B ++ plyL (rowL τ0 d (kd τ0 p 0)) (el τ0 69 p) (gr τ0 p) c m j))) τ3 (1 + m * (sbd d + 1)))) := by
  obtain ⟨n1, ⟨n2, n2'⟩, n3, n4, n5, n6⟩ := id hn
  obtain ⟨hHR, hT, hC, k0, k1, e0, e1, hN⟩ := id h
  obtain ⟨⟨g1, g2⟩, ⟨cp1, cp2⟩, ⟨rp1, rp2⟩, ⟨wp1, wp2⟩, -⟩ := hT.2.1
  have pp := hT.pos
  have cb := hC.abs hT.2.1
  have ph := phi_lo (show 0 ≤ wk τ0 p by omega)
  obtain ⟨kt, kr⟩ := h.kn (i := 0) (by omega) (by omega)
  obtain ⟨⟨kg1, kg2⟩, ⟨kc1, kc2⟩, ⟨kr1, kr2⟩, ⟨kw1, kw2⟩, -⟩ := kr
  have pm := phi_mono n6 wp2
  have ac0 : 0 ≤ el τ0 69 p * cw τ0 (kd τ0 p 0) := Int.mul_nonneg (by omega) kc1
  have c1a : cw τ0 (kd τ0 p 0) ≤ el τ0 69 p * cw τ0 (kd τ0 p 0) := by
    have := Int.mul_le_mul_of_nonneg_right n2 kc1
    omega
  intro m
  induction m with
  | zero =>
    intro j τ2 B hA h34 h33 hl hlj hj hg
    have e39 : el τ2 39 k = fl τ 84 0 := hA.2.2.2.2.1
    obtain ⟨τ9, u1, u2, u3, u4⟩ := r_sort' (N := N) (τ := τ2) (m := fl τ 84 0) (by omega) e0 hA.2.2.2.2.2.2.2 (fun x hx => by
      obtain ⟨y, hy, rfl⟩ := List.mem_map.1 hx
      show i64 (y.1 + c * gr τ0 p)
      have := (hg y hy).1
      exact ⟨by omega, by omega⟩) (by rw [hA.2.2.2.2.2.2.1]) (by rw [hA.2.2.2.2.2.2.1, ab_len]; omega)
    refine ⟨_, rfl, Or.inl ⟨τ9, ?_, ?_⟩⟩
    · rw [r_rows_145, grd_t (by exact ⟨by omega, by omega⟩), h34, h33, grd_t (by exact ⟨by omega, by omega⟩), grd_t (by exact ⟨by omega, by omega⟩), if_pos (by omega), grd_t (by exact ⟨by omega, by omega⟩), hA.t 70 _ (by decide), hK, grd_t (by decide), if_pos rfl, e39, u1, Option.bind_some]
    · rw [plyL, List.append_nil, ← ab_sort]
      have := NR.ev (A := []) (M := sortE (ab (c * gr τ0 p) B)) (τ' := τ9) hA (by simp only [List.length_nil]; rw [show fl τ 84 0 + ((0 : Nat) : Int) = fl τ 84 0 by omega]; exact u2) (by
        simp only [List.length_nil]
        rw [u3, hA.2.2.2.2.2.2.1]
        show _ = _ + ((isoL ltE _).length : Int)
        rw [isoL_len]
        omega) (by simp only [List.length_nil]; rw [show fl τ 84 0 + ((0 : Nat) : Int) = fl τ 84 0 by omega]; exact u4)
      exact this
  | succ m ih =>
    intro j τ2 B hA h34 h33 hl hlj hj hg
    have e3 : ((m + 1 : Nat) : Int) * (el τ0 69 p * cw τ0 (kd τ0 p 0)) = m * (el τ0 69 p * cw τ0 (kd τ0 p 0)) + el τ0 69 p * cw τ0 (kd τ0 p 0) := by rw [Int.natCast_add, Int.add_mul]; omega
    rw [e3] at hl
    have mc : 0 ≤ (m : Int) * (el τ0 69 p * cw τ0 (kd τ0 p 0)) := Int.mul_nonneg (by omega) ac0
    obtain ⟨τ1, κ, τ3, q1, q2, q3, q4, q5, q6, q7, q8, q9, q10, q11⟩ := hA.kid h (i := 0) (c' := j) (by omega) (by omega) (hC.same kw1 n6 (by omega) (by omega)) (by rw [ab_len]; omega)
    rw [ab_len] at q5
    have gd := row_good d (kd τ0 p 0) j kt
    have gl := gd.1
    have al : el τ0 69 p * (rowL τ0 d (kd τ0 p 0) j).length ≤ el τ0 69 p * cw τ0 (kd τ0 p 0) := Int.mul_le_mul_of_nonneg_left gl (by omega)
    refine ⟨some (τ1, 1), ?_, Or.inr ⟨τ1, κ, τ3, _, rfl, q2, q3, q4, ?_⟩⟩
    · rw [r_rows_145, grd_t (by exact ⟨by omega, by omega⟩), h34, h33, grd_t (by exact ⟨by omega, by omega⟩), grd_t (by exact ⟨by omega, by omega⟩), if_neg (by omega), q1, Option.bind_some]
    · -- back from the kid
      have q4T := q4.2.2.2.2.2.2.1
      rw [List.length_append, ab_len, ab_len] at q4T
      have q4A := q4.2.2.2.2.2.2.2.rt
      rw [ab_len] at q4A
      obtain ⟨τ4, y1, y2, y3, y4⟩ := r_ply16 (N := N) (n := el τ0 69 p) (g0 := gr τ0 (kd τ0 p 0)) (cG := c * gr τ0 p) (j := j) (o := (j - c) * gr τ0 p) (s := fl τ 84 0 + B.length) (L := rowL τ0 d (kd τ0 p 0) j) hN ⟨n2, n2'⟩ (fun x => by
        rw [n3, Int.add_mul, Int.sub_mul, Int.mul_comm (el τ0 69 p), ← Int.mul_assoc, ← Int.mul_assoc]
        omega) (by omega) (by omega) (rowL τ0 d (kd τ0 p 0) j) N τ3 [] [] (by omega) rfl q4A trivial (by rw [q4T]; simp only [List.length_nil]; omega) (by simp)
      simp only [List.nil_append, List.length_nil] at y1 y3 y4
      rw [show fl τ 84 0 + (B.length : Int) + ((0 : Nat) : Int) = fl τ 84 0 + B.length by omega] at y1
      have plr := plyRu_len (n := el τ0 69 p) (o := (j - c) * gr τ0 p) (by omega) (rowL τ0 d (kd τ0 p 0) j)
      rw [ab_len] at y3
      have w0 := NR.ev q4 (M := ab (c * gr τ0 p) (plyRu (el τ0 69 p) ((j - c) * gr τ0 p) (rowL τ0 d (kd τ0 p 0) j))) (by rw [ab_len]; exact y2) (by rw [ab_len, ab_len]; exact y3) (by rw [ab_len]; exact y4)
      have fr4 : ∀ a, a < 43 → el τ4 a k = el τ3 a k := fun a ha => y2.2.1 a k (Or.inl ha)
      have c1G : (c + 1) * gr τ0 p = c * gr τ0 p + gr τ0 p := by rw [Int.add_mul]; omega
      have rl : rc τ0 (kd τ0 p 0) * gr τ0 (kd τ0 p 0) ≤ 64 * gr τ0 (kd τ0 p 0) := Int.mul_le_mul_of_nonneg_right kr2 (by omega)
      have o1 : -65 * gr τ0 p ≤ (j - c) * gr τ0 p := Int.mul_le_mul_of_nonneg_right hj (by omega)
      have o2 : (j - c) * gr τ0 p ≤ 0 * gr τ0 p := Int.mul_le_mul_of_nonneg_right (by omega) (by omega)
      have bdE : ∀ (y : Evt), y ∈ rowL τ0 d (kd τ0 p 0) j → ∀ (m : Nat) (q : Int), 0 ≤ q → q + m ≤ 64 → ∀ x ∈ plyEu (el τ0 69 p) ((j - c) * gr τ0 p) y m q, -100000000000 ≤ x.1 ∧ x.1 ≤ 100000000000 := by
        intro y hy m
        obtain ⟨⟨v1, v2⟩, ⟨v3, v4⟩, -⟩ := gd.2.1 y hy
        induction m with
        | zero => intro q _ _ x hx; cases hx
        | succ m ihm =>
          intro q q0 q1 x hx
          rcases List.mem_cons.1 hx with rfl | hx
          · have a1 : 0 ≤ y.1 * el τ0 69 p ∧ y.1 * el τ0 69 p ≤ 1000000 * 64 := ⟨Int.mul_nonneg v1 (by omega), Int.mul_le_mul (by omega) n2' (by omega) (by omega)⟩
            have a2 : 0 ≤ q * y.2.1 ∧ q * y.2.1 ≤ 64 * 64000000 := ⟨Int.mul_nonneg q0 (by omega), Int.mul_le_mul (by omega) (by omega) (by omega) (by omega)⟩
            show -100000000000 ≤ y.1 * el τ0 69 p + (j - c) * gr τ0 p + q * y.2.1 ∧ _ ≤ (100000000000 : Int)
            constructor <;> omega
          · exact ihm (q + 1) (by omega) (by omega) x hx
      have bdR : ∀ x ∈ plyRu (el τ0 69 p) ((j - c) * gr τ0 p) (rowL τ0 d (kd τ0 p 0) j), -100000000000 ≤ x.1 ∧ x.1 ≤ 100000000000 := by
        have : ∀ l : List Evt, (∀ y ∈ l, y ∈ rowL τ0 d (kd τ0 p 0) j) → ∀ x ∈ plyRu (el τ0 69 p) ((j - c) * gr τ0 p) l, -100000000000 ≤ x.1 ∧ x.1 ≤ 100000000000 := by
          intro l
          induction l with
          | nil => intro _ x hx; cases hx
          | cons y l ihl =>
            intro hl' x hx
            rw [plyRu] at hx
            rcases List.mem_append.1 hx with hx | hx
            · exact bdE y (hl' y (by simp)) _ 0 (Int.le_refl _) (by rw [Int.toNat_of_nonneg (by omega)]; omega) x hx
            · exact ihl (fun z hz => hl' z (by simp [hz])) x hx
        exact this _ (fun _ h => h)
      obtain ⟨τ5, w1, w2, w3⟩ := NR.clp h w0 (by rw [ab_len, ab_len]; omega) (lo := c * gr τ0 p) (hi := (c + 1) * gr τ0 p) ⟨⟨by omega, by omega⟩, ⟨by omega, by omega⟩⟩ (fun x hx => by
        obtain ⟨y, hy, rfl⟩ := List.mem_map.1 hx
        have := bdR y hy
        show i64 (y.1 + c * gr τ0 p)
        exact ⟨by omega, by omega⟩)
      rw [ab_flt (lo := 0) (hi := gr τ0 p) (by omega) (by omega), plyRu_flt, ← ab_app] at w2
      rw [ab_len] at w1
      obtain ⟨p1, p2⟩ := plyR_good (n := el τ0 69 p) (G := gr τ0 p) (o := (j - c) * gr τ0 p) n2 gd.2.1
      have gle : gr τ0 (kd τ0 p 0) ≤ gr τ0 p := by
        rw [n3]
        have := Int.mul_le_mul_of_nonneg_right n2 (show 0 ≤ gr τ0 (kd τ0 p 0) by omega)
        omega
      have u2 := Int.mul_le_mul_of_nonneg_right n5 (show 0 ≤ gr τ0 (kd τ0 p 0) by omega)
      have u3 := Int.mul_le_mul_of_nonneg_left gle (show 0 ≤ rc τ0 p by omega)
      have w4 := w2.se (a := 34) (by decide) (el τ5 34 k + 1)
      have e34 : el τ5 34 k = j := by rw [w3 34 (by decide), fr4 34 (by decide), q10]; exact h34
      have e33 : el τ5 33 k = c := by rw [w3 33 (by decide), fr4 33 (by decide), q11]; exact h33
      have e38 : el τ4 38 k = fl τ 84 0 + B.length := by rw [fr4 38 (by decide)]; exact q5
      obtain ⟨R, r1, r2⟩ := ih (j + 1) _ _ w4 (by rw [el_ses, e34]) (by rw [el_sen _ _ _ _ (by decide)]; exact e33) (by rw [List.length_append]; omega) (by omega) (by omega) (hg.app (p1.wk (Int.le_refl _) (Int.le_refl _) (by omega)))
      have rr : r_rows N τ3 k p c = R := by
        rw [r_rows, grd_t (by exact ⟨by omega, by omega⟩), q6, grd_t (by decide), if_neg (by decide), grd_t (by exact ⟨by omega, by omega⟩), q4.t 70 _ (by decide), hK, grd_t (by decide), if_pos rfl, q4.t 69 _ (by decide), r_ply, grd_t (by exact ⟨by omega, by omega⟩), bnd, q5, q4T, show fl τ 84 0 + ((B.length + (rowL τ0 d (kd τ0 p 0) j).length : Nat) : Int) = fl τ 84 0 + B.length + (rowL τ0 d (kd τ0 p 0) j).length by omega, y1, Option.bind_some, r_rows_105, grd_t (by exact ⟨by omega, by omega⟩), grd_t (by exact ⟨by omega, by omega⟩), w0.t 63 _ (by decide), show el τ0 63 p = gr τ0 p from rfl, grd_t (by exact ⟨by omega, by omega⟩), e38, w1, Option.bind_some]
        exact r1
      obtain ⟨-, st⟩ := r_step_k h q4
      have ss := st (r_rows N τ3 k p c) (Or.inr (Or.inr (Or.inr (Or.inr (Or.inr (Or.inl ⟨by omega, rfl⟩))))))
      rw [rr] at ss
      rw [plyL, ← List.append_assoc]
      rcases r2 with ⟨τ6, x1, x2⟩ | ⟨τ6, κ2, τ7, M, x1, x2, x3, x4, x5⟩
      · rw [x1, fin0] at ss
        refine (GO.done h q4 ss x2).wk ?_
        omega
      · rw [x1, fin1] at ss
        refine (GO.call h q4 ss x3 x2 x5).wk ?_
        rw [Nat.succ_mul]
        omega
theorem rk_18 {τ : St} (h : PR2 N τ0 d k p c (fl τ 84 0)) (tb : TB τ0 τ) (hF : FRM τ k p c) (hK : el τ0 70 p = 18) (hn : NK18 τ0 p) : GO N τ k (fl τ 84 0) (ab (c * gr τ0 p) (rowK τ0 (rowL τ0 d) p c)) τ (1 + 66 * (sbd d + 1) + (sbd d + 1)) := by
  obtain ⟨n1, ⟨n2, n2'⟩, n3, n4, n5, n6⟩ := id hn
  obtain ⟨hHR, hT, hC, k0, k1, e0, e1, hN⟩ := id h
  have pp := hT.pos
  have bT := hT.2.2.1
  obtain ⟨kt, kr⟩ := h.kn (i := 0) (by omega) (by omega)
  obtain ⟨kr1, kr2⟩ := kr.2.2.1
  have kp := kt.pos
  have hA0 := NR.rf (τ0 := τ0) tb hF
  have tn : ((rc τ0 (kd τ0 p 0) + 1).toNat : Int) = rc τ0 (kd τ0 p 0) + 1 := Int.toNat_of_nonneg (by omega)
  have hA1 := (hA0.se (a := 34) (by decide) (c - rc τ0 (kd τ0 p 0))).se (a := 33) (by decide) c
  obtain ⟨R, r1, r2⟩ := rk_plyrows h hK hn (rc τ0 (kd τ0 p 0) + 1).toNat (c - rc τ0 (kd τ0 p 0)) _ [] hA1 (by rw [el_sen _ _ _ _ (by decide), el_ses]) (el_ses _ _ _ _) (by rw [tn, Int.mul_comm]; simp only [List.length_nil]; omega) (by omega) (by omega) Gu.nil
  have k58 : el τ0 58 (el τ0 65 p) = kd τ0 p 0 := by show _ = el τ0 58 (el τ0 65 p + 0); rw [Int.add_zero]
  have rr : r_rows N τ k p c = R := by
    rw [r_rows, grd_t (by exact ⟨by omega, by omega⟩), hF.2.2.2.1, grd_t (by decide), if_pos rfl, r_span, grd_t (by exact ⟨by omega, by omega⟩), tb.1 69 _ (by decide), grd_t (by exact ⟨by omega, by omega⟩), bnd, tb.1 68 _ (by decide), n1.2, grd_t (by decide), bnd, tb.1 70 _ (by decide), hK, grd_t (by decide)]
    show Option.bind (grd (inb (el τ 65 p) 210000) (grd (inb (el τ 58 (el τ 65 p)) 103000) (grd (i32 (el τ 61 (el τ 58 (el τ 65 p)))) (grd (inb k 70) (some (se (se τ 34 k (c - el τ 61 (el τ 58 (el τ 65 p)))) 33 k c)))))) _ = _
    rw [tb.1 65 _ (by decide), grd_t (by exact ⟨by omega, by omega⟩), tb.1 58 _ (by decide), k58, grd_t (by exact ⟨by omega, by omega⟩), tb.1 61 _ (by decide), show el τ0 61 (kd τ0 p 0) = rc τ0 (kd τ0 p 0) from rfl, grd_t (by exact ⟨by omega, by omega⟩), grd_t (by exact ⟨by omega, by omega⟩), Option.bind_some]
    exact r1
  obtain ⟨-, st⟩ := r_step_k h hA0
  have ss := st (r_rows N τ k p c) (Or.inr (Or.inr (Or.inr (Or.inr (Or.inr (Or.inl ⟨by omega, rfl⟩))))))
  rw [rr] at ss
  have er : rowK τ0 (rowL τ0 d) p c = sortE (plyL (rowL τ0 d (kd τ0 p 0)) (el τ0 69 p) (gr τ0 p) c (rc τ0 (kd τ0 p 0) + 1).toNat (c - rc τ0 (kd τ0 p 0))) := by
    unfold rowK
    simp only [hK]
    rfl
  rw [er]
  simp only [List.nil_append] at r2
  have m66 : (rc τ0 (kd τ0 p 0) + 1).toNat * (sbd d + 1) ≤ 66 * (sbd d + 1) := Nat.mul_le_mul_right _ (by omega)
  rcases r2 with ⟨τ6, x1, x2⟩ | ⟨τ6, κ2, τ7, M, x1, x2, x3, x4, x5⟩
  · rw [x1, fin0] at ss
    exact (GO.done h hA0 ss x2).wk (by omega)
  · rw [x1, fin1] at ss
    exact (GO.call h hA0 ss x3 x2 x5).wk (by omega)
end RZ
