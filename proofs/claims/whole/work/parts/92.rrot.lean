/-! rows of the reference: rotated, windows -/
section RT1
variable {N : Nat} {τ0 : St} {d : Nat} {k p c : Int}
/-- a value kept aside at place j -/
def TE (τ : St) (j : Int) (e : Evt) : Prop := el τ 32 j = e.2.2.1 ∧ el τ 31 j = e.2.2.2.1 ∧ el τ 30 j = e.2.2.2.2.1 ∧ el τ 29 j = e.2.2.2.2.2
theorem r_rot1 {m b many : Int} (h0 : 0 ≤ m) (hb : 0 ≤ b ∧ b ≤ 100000) (h2 : many ≤ 400) (hp : 0 < many) (h3 : m + many ≤ 29999) : ∀ (f : List Evt) (n : Nat) (τ : St) (K : List Evt), f.length < n → At (TE τ) 0 K → At (fun j g => RE τ (m + (j + b) % many) g) K.length f → K.length + f.length = many → ∃ τ', r_rotate_10 N n τ m b many K.length = r_rotate_91 N N τ' m many 0 ∧ (∀ f i, fl τ' f i = fl τ f i) ∧ (∀ a j, a < 29 ∨ 32 < a → el τ' a j = el τ a j) ∧ At (TE τ') 0 (K ++ f)
  | [], n + 1, τ, K, _, hK, _, h1 => by
    simp only [List.length_nil] at h1
    refine ⟨τ, ?_, fun _ _ => rfl, fun _ _ _ => rfl, by rw [List.append_nil]; exact hK⟩
    rw [r_rotate_10, grd_t (by exact ⟨by omega, by omega⟩), grd_t (by exact ⟨by omega, by omega⟩), if_neg (by omega)]
  | g :: f, n + 1, τ, K, hn, hK, hf, h1 => by
    simp only [List.length_cons] at h1 hn
    have m0 := Int.emod_nonneg ((K.length : Int) + b) (show many ≠ 0 by omega)
    have m1 := Int.emod_lt_of_pos ((K.length : Int) + b) hp
    obtain ⟨⟨s1, s2, s3, s4, s5, s6⟩, hf⟩ := hf
    have hfr : ∀ (a j : Int), a < 29 ∨ 32 < a ∨ j ≠ (K.length : Int) → el (se (se (se (se τ 32 K.length (el τ 50 (m + ((K.length : Int) + b) % many))) 31 K.length (el τ 49 (m + ((K.length : Int) + b) % many))) 30 K.length (el τ 48 (m + ((K.length : Int) + b) % many))) 29 K.length (el τ 47 (m + ((K.length : Int) + b) % many))) a j = el τ a j := fun a j ha => by
      simp only [el_se]
      rw [if_neg (by omega), if_neg (by omega), if_neg (by omega), if_neg (by omega)]
    have kk : (K.length : Int) + 1 = ((K ++ [g]).length : Int) := by simp only [List.length_append, List.length_cons, List.length_nil]; omega
    obtain ⟨τ', q1, q2, q3, q4⟩ := r_rot1 h0 hb h2 hp h3 f n (se (se (se (se τ 32 K.length (el τ 50 (m + ((K.length : Int) + b) % many))) 31 K.length (el τ 49 (m + ((K.length : Int) + b) % many))) 30 K.length (el τ 48 (m + ((K.length : Int) + b) % many))) 29 K.length (el τ 47 (m + ((K.length : Int) + b) % many))) (K ++ [g]) (by omega) (At.snoc (hK.mono (fun i x i0 i1 _ hx => by
        unfold TE at hx ⊢
        rw [hfr _ _ (by omega), hfr _ _ (by omega), hfr _ _ (by omega), hfr _ _ (by omega)]
        exact hx)) (by
        rw [show (0 : Int) + (K.length : Int) = K.length by omega]
        unfold TE
        simp only [el_se]
        exact ⟨s3, s4, s5, s6⟩)) (by
        rw [← kk]
        refine hf.mono (fun i x _ _ _ hx => ?_)
        unfold RE at hx ⊢
        rw [hfr _ _ (by omega), hfr _ _ (by omega), hfr _ _ (by omega), hfr _ _ (by omega), hfr _ _ (by omega), hfr _ _ (by omega)]
        exact hx) (by simp only [List.length_append, List.length_cons, List.length_nil]; omega)
    refine ⟨τ', ?_, q2, fun a j ha => (q3 a j ha).trans (hfr a j (by omega)), ?_⟩
    · rw [r_rotate_10, grd_t (by exact ⟨by omega, by omega⟩), grd_t (by exact ⟨by omega, by omega⟩), if_pos (by omega), grd_t (by exact ⟨by omega, by omega⟩), grd_t (by omega), tm_pos (by omega), bnd, grd_t (by exact ⟨by omega, by omega⟩), grd_t (by exact ⟨by omega, by omega⟩), kk]
      exact q1
    · rw [List.append_assoc] at q4
      exact q4
theorem r_rot2 {m many : Int} (h0 : 0 ≤ m) (h2 : many ≤ 400) (h3 : m + many ≤ 29999) : ∀ (l f : List Evt) (n : Nat) (τ : St) (K : List Evt), l.length < n → l.length = f.length → At (RE τ) m K → At (RE τ) (m + K.length) l → At (TE τ) K.length f → K.length + l.length = many → ∃ τ', r_rotate_91 N n τ m many K.length = some τ' ∧ (∀ f i, fl τ' f i = fl τ f i) ∧ (∀ a j, a < 47 ∨ 50 < a ∨ j < m → el τ' a j = el τ a j) ∧ At (RE τ') m (K ++ List.zipWith (fun e (g : Evt) => (e.1, e.2.1, g.2.2)) l f)
  | [], f, n + 1, τ, K, _, hf, hK, _, _, h1 => by
    simp only [List.length_nil] at h1
    refine ⟨τ, ?_, fun _ _ => rfl, fun _ _ _ => rfl, by simpa using hK⟩
    rw [r_rotate_91, grd_t (by exact ⟨by omega, by omega⟩), grd_t (by exact ⟨by omega, by omega⟩), if_neg (by omega)]
  | x :: l, [], n + 1, τ, K, _, hf, _, _, _, _ => by simp at hf
  | x :: l, g :: f, n + 1, τ, K, hn, hf, hK, hl, ht, h1 => by
    simp only [List.length_cons] at h1 hn hf
    obtain ⟨⟨s1, s2, s3, s4⟩, ht⟩ := ht
    have hfr : ∀ a j, a < 47 ∨ 50 < a ∨ j ≠ m + K.length → el (se (se (se (se τ 50 (m + K.length) (el τ 32 K.length)) 49 (m + K.length) (el τ 31 K.length)) 48 (m + K.length) (el τ 30 K.length)) 47 (m + K.length) (el τ 29 K.length)) a j = el τ a j := fun a j ha => by
      simp only [el_se]
      rw [if_neg (by omega), if_neg (by omega), if_neg (by omega), if_neg (by omega)]
    have kk : (K.length : Int) + 1 = ((K ++ [(x.1, x.2.1, g.2.2)]).length : Int) := by simp only [List.length_append, List.length_cons, List.length_nil]; omega
    obtain ⟨τ', q1, q2, q3, q4⟩ := r_rot2 h0 h2 h3 l f n _ (K ++ [(x.1, x.2.1, g.2.2)]) (by omega) (by omega) (At.snoc (RE.of (fun b j j1 j2 => hfr b j (by omega)) hK) (by
        obtain ⟨⟨u1, u2, u3⟩, -⟩ := hl
        unfold RE
        simp only [el_se]
        exact ⟨u1, u2, s1, s2, s3, s4⟩)) (by
        rw [← kk, show m + ((K.length : Int) + 1) = m + K.length + 1 by omega]
        exact RE.of (fun b j j1 j2 => hfr b j (by omega)) hl.2) (by
        rw [← kk]
        refine ht.mono (fun i x _ _ _ hx => ?_)
        unfold TE at hx ⊢
        rw [hfr _ _ (by omega), hfr _ _ (by omega), hfr _ _ (by omega), hfr _ _ (by omega)]
        exact hx) (by simp only [List.length_append, List.length_cons, List.length_nil]; omega)
    refine ⟨τ', ?_, q2, fun a j ha => (q3 a j ha).trans (hfr a j (by omega)), ?_⟩
    · rw [r_rotate_91, grd_t (by exact ⟨by omega, by omega⟩), grd_t (by exact ⟨by omega, by omega⟩), if_pos (by omega), grd_t (by exact ⟨by omega, by omega⟩), grd_t (by exact ⟨by omega, by omega⟩), kk]
      exact q1
    · rw [List.zipWith_cons_cons]
      rw [List.append_assoc] at q4
      exact q4
theorem ab_rtl (o : Int) (n : Nat) (l : List Evt) : rtl n (ab o l) = ab o (rtl n l) := by
  unfold rtl
  rw [ab_app, ab_len]
  unfold ab
  rw [List.map_drop, List.map_take]
theorem ab_zip (o : Int) : ∀ (l f : List Evt), List.zipWith (fun e (g : Evt) => (e.1, e.2.1, g.2.2)) (ab o l) (ab o f) = ab o (List.zipWith (fun e (g : Evt) => (e.1, e.2.1, g.2.2)) l f)
  | [], _ => by simp [ab]
  | _ :: _, [] => by simp [ab]
  | x :: l, g :: f => by
    have := ab_zip o l f
    unfold ab at this ⊢
    rw [List.map_cons, List.map_cons, List.zipWith_cons_cons, List.zipWith_cons_cons, List.map_cons, this]
theorem rk_19 {τ : St} (h : PR2 N τ0 d k p c (fl τ 84 0)) (tb : TB τ0 τ) (hF : FRM τ k p c) (hK : el τ0 70 p = 19) (hn : NK19 τ0 p) : GO N τ k (fl τ 84 0) (ab (c * gr τ0 p) (rowK τ0 (rowL τ0 d) p c)) τ (1 + (sbd d + 1)) := by
  obtain ⟨n1, n2, n3, n4⟩ := hn
  obtain ⟨hHR, hT, hC, k0, k1, e0, e1, hN⟩ := id h
  obtain ⟨⟨g1, g2⟩, ⟨cp1, cp2⟩, -, ⟨wp1, wp2⟩, -⟩ := hT.2.1
  have pp := hT.pos
  have n41 := n4.1
  obtain ⟨τ1, κ, τ2, q1, q2, q3, q4, q5, q6, q7⟩ := single_first h tb hF (i := 0) (Or.inl rfl) (by omega) n4.1 n4.2.2 (by omega) (r_single_0 h tb hF ⟨by omega, by omega⟩)
  refine GO.call h (NR.rf (τ0 := τ0) tb hF) q1 q3 q2 ?_
  obtain ⟨kt, kr⟩ := h.kn (i := 0) (by omega) (by omega)
  have gl := (row_good d (kd τ0 p 0) c kt).1
  have ph := phi_lo (show 0 ≤ wk τ0 p by omega)
  rw [n3] at q4
  obtain ⟨-, -, -, -, -, -, a7, a8⟩ := id q4
  rw [ab_len] at a7
  have er : rowK τ0 (rowL τ0 d) p c = rotL (el τ0 69 p).toNat (rowL τ0 d (kd τ0 p 0) c) := by
    unfold rowK
    simp only [hK]
    rfl
  have hsing : r_single N τ2 k p c = Option.bind (r_rotate N τ2 (fl τ 84 0) (el τ0 69 p)) (fun r61 => some (r61, 0)) := by
    rw [r_single, grd_t (by exact ⟨by omega, by omega⟩), q6, grd_t (by decide), if_neg (by decide), grd_t (by exact ⟨by omega, by omega⟩), q4.t 63 _ (by decide), show el τ0 63 p = gr τ0 p from rfl, grd_t (by exact ⟨by omega, by omega⟩), bnd, q4.t 70 _ (by decide), hK, grd_t (by decide)]
    show Option.bind (r_rotate N τ2 (el τ2 38 k) (el τ2 69 p)) _ = _
    rw [q5, q4.t 69 _ (by decide)]
  have vm : fl τ2 84 0 - fl τ 84 0 = ((rowL τ0 d (kd τ0 p 0) c).length : Int) := by rw [a7]; omega
  obtain ⟨τ3, w1, w2⟩ : ∃ τ3, r_rotate N τ2 (fl τ 84 0) (el τ0 69 p) = some τ3 ∧ NR τ0 τ k p c (fl τ 84 0) (ab (c * gr τ0 p) (rotL (el τ0 69 p).toNat (rowL τ0 d (kd τ0 p 0) c))) τ3 := by
    rw [r_rotate, bnd, vm]
    by_cases he : rowL τ0 d (kd τ0 p 0) c = []
    · rw [he] at q4 ⊢
      refine ⟨τ2, ?_, q4⟩
      cases N with
      | zero => omega
      | succ n =>
        rw [r_rotate_10, grd_t (by decide), grd_t (by decide), if_neg (by simp), r_rotate_91, grd_t (by decide), grd_t (by decide), if_neg (by simp)]
    · have lp : 0 < (rowL τ0 d (kd τ0 p 0) c).length := List.length_pos_iff.2 he
      have rat := rtl_at (Q := fun j g => RE τ2 (fl τ 84 0 + j) g) (L := ab (c * gr τ0 p) (rowL τ0 d (kd τ0 p 0) c)) (b := el τ0 69 p) (many := ((rowL τ0 d (kd τ0 p 0) c).length : Int)) n2.1 (by rw [ab_len]) (by omega) (At.sh (s := fl τ 84 0) (a := 0) (Q := RE τ2) (fun i x _ _ hx => by rw [Int.add_comm] at hx; exact hx) (by rw [Int.zero_add]; exact a8))
      obtain ⟨τ3, z1, z2, z3, z4⟩ := r_rot1 (N := N) (m := fl τ 84 0) (b := el τ0 69 p) (many := ((rowL τ0 d (kd τ0 p 0) c).length : Int)) e0 ⟨n2.1, by omega⟩ (by omega) (by omega) (by omega) (rtl (el τ0 69 p).toNat (ab (c * gr τ0 p) (rowL τ0 d (kd τ0 p 0) c))) N τ2 [] (by rw [rtl_len, ab_len]; omega) trivial rat (by rw [rtl_len, ab_len]; simp)
      rw [List.nil_append] at z4
      have rl3 : At (RE τ3) (fl τ 84 0) (ab (c * gr τ0 p) (rowL τ0 d (kd τ0 p 0) c)) := a8.mono (fun i x _ _ _ hx => by
        unfold RE at hx ⊢
        rw [z3 _ _ (by omega), z3 _ _ (by omega), z3 _ _ (by omega), z3 _ _ (by omega), z3 _ _ (by omega), z3 _ _ (by omega)]
        exact hx)
      obtain ⟨τ4, y1, y2, y3, y4⟩ := r_rot2 (N := N) (m := fl τ 84 0) (many := ((rowL τ0 d (kd τ0 p 0) c).length : Int)) e0 (by omega) (by omega) (ab (c * gr τ0 p) (rowL τ0 d (kd τ0 p 0) c)) (rtl (el τ0 69 p).toNat (ab (c * gr τ0 p) (rowL τ0 d (kd τ0 p 0) c))) N τ3 [] (by rw [ab_len]; omega) (rtl_len _ _).symm trivial (by simp only [List.length_nil]; rw [show fl τ 84 0 + ((0 : Nat) : Int) = fl τ 84 0 by omega]; exact rl3) z4 (by rw [ab_len]; simp)
      rw [List.nil_append, ab_rtl, ab_zip] at y4
      have z1' : r_rotate_10 N N τ2 (fl τ 84 0) (el τ0 69 p) ((rowL τ0 d (kd τ0 p 0) c).length : Int) 0 = r_rotate_91 N N τ3 (fl τ 84 0) ((rowL τ0 d (kd τ0 p 0) c).length : Int) 0 := z1
      have y1' : r_rotate_91 N N τ3 (fl τ 84 0) ((rowL τ0 d (kd τ0 p 0) c).length : Int) 0 = some τ4 := y1
      refine ⟨τ4, by rw [z1', y1'], ?_⟩
      have rl : (rotL (el τ0 69 p).toNat (rowL τ0 d (kd τ0 p 0) c)).length = (rowL τ0 d (kd τ0 p 0) c).length := by
        unfold rotL
        rw [List.length_zipWith, rtl_len, Nat.min_self]
      have := NR.ev2 (A := []) (L := ab (c * gr τ0 p) (rowL τ0 d (kd τ0 p 0) c)) (M := ab (c * gr τ0 p) (rotL (el τ0 69 p).toNat (rowL τ0 d (kd τ0 p 0) c))) (τ' := τ4) q4 (fun f i hf => by rw [y2, z2]) (fun a j ha => by rw [y3 a j (by omega), z3 a j (by omega)]) (fun a j x y hj => by
        simp only [List.length_nil] at hj
        rw [y3 a j (by omega), z3 a j (by omega)]) (by
        simp only [List.length_nil]
        rw [y2, z2, a7, ab_len, rl]
        omega) (by simp only [List.length_nil]; rw [show fl τ 84 0 + ((0 : Nat) : Int) = fl τ 84 0 by omega]; exact y4)
      exact this
  refine GO.done h q4 (τ1 := τ3) ?_ ?_
  · obtain ⟨-, st⟩ := r_step_k h q4
    rw [st (r_single N τ2 k p c) (Or.inr (Or.inr (Or.inr (Or.inr (Or.inr (Or.inr (Or.inl ⟨by omega, rfl⟩))))))), hsing, w1, Option.bind_some, fin0]
  · rw [er]
    exact w2
end RT1
