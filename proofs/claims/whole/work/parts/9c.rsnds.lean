/-! rows of the reference: structures, masks, operators -/
section RW3
variable {N : Nat} {τ0 : St} {d : Nat} {k p c e : Int}
/-- calling a kid, and its row: what lies below is as it was -/
theorem nr_kidm {τs τ : St} {A : List Evt} (h : PR2 N τ0 d k p c e) (hA : NR τ0 τs k p c e A τ) {i c' : Int} (i0 : 0 ≤ i) (i1 : i < el τ0 64 p) (hc : CB τ0 d (kd τ0 p i) c') (hl : e + A.length + cw τ0 (kd τ0 p i) + phi (wk τ0 (kd τ0 p i)) ≤ 6000) : ∃ τ1 κ τ2, r_callKid N τ k i c' = some τ1 ∧ κ ≤ sbd d ∧ Rnd N κ τ1 τ2 ∧ NR τ0 τs k p c e (A ++ ab (c' * gr τ0 (kd τ0 p i)) (rowL τ0 d (kd τ0 p i) c')) τ2 ∧ (el τ2 38 k = e + A.length ∧ el τ2 40 k = 1 ∧ el τ2 37 k = i ∧ el τ2 36 k = el τ 36 k ∧ el τ2 35 k = el τ 35 k ∧ el τ2 34 k = el τ 34 k ∧ el τ2 33 k = el τ 33 k) ∧ ∀ a j, 43 ≤ a → a ≤ 52 → j < e + A.length → el τ2 a j = el τ a j := by
  obtain ⟨hHR, hT, hC, k0, k1, e0, e1, hN⟩ := h
  obtain ⟨a1, a2, a3, a4, a5, a6, a7, a8⟩ := hA
  have bT := hT.2.2.1
  have pp := hT.pos
  have f65 : el τ 65 p = el τ0 65 p := a1.1 65 p (by decide)
  have f58 : el τ 58 (el τ0 65 p + i) = kd τ0 p i := a1.1 58 _ (by decide)
  obtain ⟨τ1, p1, p2, p3, p4, p5⟩ := r_call' (N := N) (τ := se (se (se τ 38 k (fl τ 84 0)) 40 k 1) 37 k i) (q := kd τ0 p i) (c' := c') (by show 0 ≤ fl τ 96 0; omega) (by show fl τ 96 0 < 70; omega)
  have f96 : fl (se (se (se τ 38 k (fl τ 84 0)) 40 k 1) 37 k i) 96 0 = k + 1 := a2
  have f84 : fl τ1 84 0 = e + A.length := p3.trans a7
  rw [f96] at p2 p5
  have q1 : RQ (e + A.length) (k + 1) (se (se (se τ 38 k (fl τ 84 0)) 40 k 1) 37 k i) τ1 := ⟨fun f j _ hf => p4 f j hf, fun a j ha => p5 a j (by omega), fun a j _ _ hj => p5 a j (by omega), fun a j _ _ hj => p5 a j (by omega)⟩
  have q0 : RQ e k τ (se (se (se τ 38 k (fl τ 84 0)) 40 k 1) 37 k i) := ((RQ.se e k τ (by decide) _).tr (RQ.se e k _ (by decide) _) (Int.le_refl _) (Int.le_refl _)).tr (RQ.se e k _ (by decide) _) (Int.le_refl _) (Int.le_refl _)
  have t1 : TB τ0 τ1 := q1.tb (q0.tb a1)
  obtain ⟨κ, τ2, r1, r2, r3, r4, r5, r6⟩ := hHR τ1 (k + 1) (kd τ0 p i) c' t1 (hT.2.2.2.1 i i0 i1) hc p2 (by omega) (by omega) (by omega) (by omega)
  rw [f84] at r3 r5 r6
  have fr : ∀ a, 33 ≤ a → a ≤ 42 → el τ2 a k = el (se (se (se τ 38 k (fl τ 84 0)) 40 k 1) 37 k i) a k := fun a h1 h2 => by
    rw [r3.2.2.1 a k h1 h2 (by omega), p5 a k (by omega)]
  refine ⟨τ1, κ, τ2, ?_, r1, r2, ⟨r3.tb t1, r4, ?_, ?_, ?_, ?_, ?_, ?_⟩, ⟨?_, ?_, ?_, ?_, ?_, ?_, ?_⟩, ?_⟩
  · rw [r_callKid, grd_t (by exact ⟨by omega, by omega⟩), a3, grd_t (by exact ⟨by omega, by omega⟩), f65, grd_t (by exact ⟨by omega, by omega⟩), bnd, f58, p1, Option.bind_some]
  · rw [fr 42 (by decide) (by decide)]; simp only [el_se]; exact a3
  · rw [fr 41 (by decide) (by decide)]; simp only [el_se]; exact a4
  · rw [fr 39 (by decide) (by decide)]; simp only [el_se]; exact a5
  · exact (a6.tr q0 (Int.le_refl _) (Int.le_refl _)).tr (q1.tr r3 (Int.le_refl _) (Int.le_refl _)) (by omega) (by omega)
  · rw [r5, List.length_append, ab_len]; omega
  · refine At.app ?_ r6
    have : At (RE (se (se (se τ 38 k (fl τ 84 0)) 40 k 1) 37 k i)) e A := a8.mono (fun j x _ _ _ hx => by
      unfold RE at hx ⊢
      simp only [el_se]
      exact hx)
    exact (q1.tr r3 (Int.le_refl _) (Int.le_refl _)).at this (Int.le_refl _)
  · rw [fr 38 (by decide) (by decide)]; simp only [el_se]; show fl τ 84 0 = _; exact a7
  · rw [fr 40 (by decide) (by decide)]; simp only [el_se]; rfl
  · rw [fr 37 (by decide) (by decide)]; simp only [el_se]; rfl
  · rw [fr 36 (by decide) (by decide)]; simp only [el_se]; rfl
  · rw [fr 35 (by decide) (by decide)]; simp only [el_se]; rfl
  · rw [fr 34 (by decide) (by decide)]; simp only [el_se]; rfl
  · rw [fr 33 (by decide) (by decide)]; simp only [el_se]; rfl
  · intro a j x1 x2 x3
    rw [(q1.tr r3 (Int.le_refl _) (Int.le_refl _)).2.2.2 a j x1 x2 x3, el_sen _ _ _ _ (by omega), el_sen _ _ _ _ (by omega), el_sen _ _ _ _ (by omega)]
/-- events with what is found, in the reference's times -/
def msA (o : Int) (f : Int → Option Vl) (M : List Evt) : List (Evt × Option Vl) := M.map (fun x => ((x.1 + o, x.1 + x.2.1 + o, x.2.2), f x.1))
theorem msA_len (o : Int) (f : Int → Option Vl) (M : List Evt) : (msA o f M).length = M.length := List.length_map _
theorem msA_re {τ : St} {o a : Int} {f : Int → Option Vl} {M : List Evt} (h : At (MS τ) a (msA o f M)) : At (RE τ) a (ab o M) := by
  have h2 : At (RE τ) a ((msA o f M).map Prod.fst) := At.map (fun _ _ _ _ h => h.1) h
  unfold msA at h2
  rw [List.map_map] at h2
  exact h2
/-- is one open? -/
theorem r_open_lp {im : Int} : ∀ (l : List (Evt × Option Vl)) (f : Nat) (τ : St) (x6 i : Int), l.length < f → At (MS τ) i l → (∀ x ∈ l, ∀ s, x.2 = some s → VO s) → 0 ≤ i → i + l.length = fl τ 84 0 → fl τ 84 0 ≤ 29999 → (x6 = 0 ∨ x6 = 1) → ∃ b : Int, r_sounds_159 N f τ k p im x6 i = r_sounds_196 N τ k p im b ∧ ((b = 0 ∧ x6 = 0 ∧ ∀ x ∈ l, x.2 ≠ none) ∨ (b = 1 ∧ (x6 = 1 ∨ l ≠ [])))
  | [], f + 1, τ, x6, i, _, _, _, i0, h1, h2, hx => by
    simp only [List.length_nil] at h1
    refine ⟨x6, ?_, ?_⟩
    · rw [r_sounds_159, grd_t (by exact ⟨by omega, by omega⟩), grd_t (by exact ⟨by omega, by omega⟩), if_neg (by omega)]
    · rcases hx with hx | hx
      · exact Or.inl ⟨hx, hx, by simp⟩
      · exact Or.inr ⟨hx, Or.inl hx⟩
  | x :: l, f + 1, τ, x6, i, hf, hA, hv, i0, h1, h2, hx => by
    simp only [List.length_cons] at h1 hf
    rcases hx with rfl | rfl
    · obtain ⟨⟨-, as⟩, al⟩ := hA
      cases hx2 : x.2 with
      | none =>
        simp only [hx2] at as
        obtain ⟨b, b1, b2⟩ := r_open_lp (im := im) l f τ 1 (i + 1) (by omega) al (fun y hy => hv y (by simp [hy])) (by omega) (by omega) h2 (Or.inr rfl)
        refine ⟨b, ?_, Or.inr ⟨?_, Or.inr (by simp)⟩⟩
        rotate_left
        · rcases b2 with ⟨-, b2, -⟩ | ⟨b2, -⟩
          · exact absurd b2 (by decide)
          · exact b2
        rw [r_sounds_159, grd_t (by exact ⟨by omega, by omega⟩), grd_t (by exact ⟨by omega, by omega⟩), if_pos (by omega), grd_t (by decide), if_pos rfl, grd_t (by exact ⟨by omega, by omega⟩), as, grd_t (by decide), if_pos (by decide), r_sounds_188]
        exact b1
      | some s =>
        simp only [hx2] at as
        have sb : i32 s.2.2.2 ∧ ¬ s.2.2.2 < 0 := by
          rcases (hv x (by simp) s hx2).has with ⟨u, -⟩ | ⟨u, -⟩ | u <;> rw [u] <;> decide
        obtain ⟨b, b1, b2⟩ := r_open_lp (im := im) l f τ 0 (i + 1) (by omega) al (fun y hy => hv y (by simp [hy])) (by omega) (by omega) h2 (Or.inl rfl)
        refine ⟨b, ?_, ?_⟩
        · rw [r_sounds_159, grd_t (by exact ⟨by omega, by omega⟩), grd_t (by exact ⟨by omega, by omega⟩), if_pos (by omega), grd_t (by decide), if_pos rfl, grd_t (by exact ⟨by omega, by omega⟩), as.2.2.2, grd_t sb.1, if_neg sb.2, r_sounds_188]
          exact b1
        · rcases b2 with ⟨b2, b3, b4⟩ | b2
          · refine Or.inl ⟨b2, rfl, fun y hy => ?_⟩
            rcases List.mem_cons.1 hy with rfl | hy
            · rw [hx2]; simp
            · exact b4 y hy
          · exact Or.inr ⟨b2.1, Or.inr (by simp)⟩
    · refine ⟨1, ?_, Or.inr ⟨rfl, Or.inl rfl⟩⟩
      rw [r_sounds_159, grd_t (by exact ⟨by omega, by omega⟩), grd_t (by exact ⟨by omega, by omega⟩), if_pos (by omega), grd_t (by decide), if_neg (by decide)]
/-- the end of it -/
theorem r_end' {τs τ : St} (h : PR2 N τ0 d k p c e) (hK : el τ0 70 p = 23 ∨ el τ0 70 p = 24 ∨ (el τ0 70 p = 25 ∧ i32 (el τ0 69 p))) {M : List Evt} {f : Int → Option Vl} (hA : NR τ0 τs k p c e (ab (c * gr τ0 p) M) τ) (hM : At (MS τ) e (msA (c * gr τ0 p) f M)) (hv : ∀ x ∈ M, VO x.2.2 ∧ ∀ s, f x.1 = some s → VO s) (hl : (M.length : Int) ≤ 400) : ∃ τ', r_sounds_234 N τ k p = some (τ', 0) ∧ NR τ0 τs k p c e (ab (c * gr τ0 p) (meeL (el τ0 70 p) (el τ0 69 p) f M)) τ' := by
  obtain ⟨hHR, hT, hC, k0, k1, e0, e1, hN⟩ := id h
  obtain ⟨-, ⟨cp1, cp2⟩, -, ⟨wp1, wp2⟩, -⟩ := hT.2.1
  have ph := phi_lo (show 0 ≤ wk τ0 p by omega)
  have f84 := hA.2.2.2.2.2.2.1
  rw [ab_len] at f84
  obtain ⟨τ', z1, z2, z3, z4⟩ := r_end_lp h hK (msA (c * gr τ0 p) f M) N τ [] e (by rw [msA_len]; omega) hA.1 trivial hM (fun x hx => by
    obtain ⟨y, hy, rfl⟩ := List.mem_map.1 hx
    exact hv y hy) (by simp) (by rw [msA_len]; omega) (by omega)
  simp only [List.length_nil, List.nil_append] at z1 z3 z4
  rw [show e + ((0 : Nat) : Int) = e by omega] at z1 z3
  have ee : endL (el τ0 70 p) (el τ0 69 p) (msA (c * gr τ0 p) f M) = ab (c * gr τ0 p) (meeL (el τ0 70 p) (el τ0 69 p) f M) := endL_ab _ _ _ f M
  rw [ee] at z3 z4
  refine ⟨τ', ?_, ?_⟩
  · rw [r_sounds_234, r_endSounds, grd_t (by exact ⟨by omega, by omega⟩), bnd, bnd, hA.2.2.2.2.1, z1, Option.bind_some]
  · have := NR.ev (A := []) (L := ab (c * gr τ0 p) M) (M := ab (c * gr τ0 p) (meeL (el τ0 70 p) (el τ0 69 p) f M)) (τ' := τ') hA (by simp only [List.length_nil]; rw [show e + ((0 : Nat) : Int) = e by omega]; exact z2) (by simp only [List.length_nil]; omega) (by simp only [List.length_nil]; rw [show e + ((0 : Nat) : Int) = e by omega]; exact z4)
    exact this
theorem rk_snd_lp {τs : St} (h : PR2 N τ0 d k p c e) {im io : Int} (h01 : (im = 0 ∧ io = 1) ∨ (im = 1 ∧ io = 0)) (hn : NK23 τ0 p (kd τ0 p im) (kd τ0 p io)) (hK : (el τ0 70 p = 23 ∧ im = 0) ∨ (el τ0 70 p = 24 ∧ im = 1) ∨ (el τ0 70 p = 25 ∧ im = 0 ∧ i32 (el τ0 69 p))) {M : List Evt} (hM : Gd 0 (gr τ0 p) (rc τ0 p * gr τ0 p) M) (hMl : (M.length : Int) ≤ cw τ0 (kd τ0 p im)) : ∀ (m : Nat) (q : Nat) (τ2 : St), (q + m : Int) = rc τ0 (kd τ0 p io) + 1 → NR τ0 τs k p c e (ab (c * gr τ0 p) M) τ2 → At (MS τ2) e (msA (c * gr τ0 p) (fun x => fndL (rowL τ0 d (kd τ0 p io)) (gr τ0 p) (gr τ0 (kd τ0 p io)) (x * gr τ0 (kd τ0 p io)) c q c) M) → el τ2 34 k = c - q → el τ2 33 k = c - rc τ0 (kd τ0 p io) → el τ2 36 k = 1 → el τ2 35 k = e + M.length → ∃ R, r_sounds_148 N τ2 k p im = R ∧ ((∃ τ3, R = some (τ3, 0) ∧ NR τ0 τs k p c e (ab (c * gr τ0 p) (meeL (el τ0 70 p) (el τ0 69 p) (fun x => fndL (rowL τ0 d (kd τ0 p io)) (gr τ0 p) (gr τ0 (kd τ0 p io)) (x * gr τ0 (kd τ0 p io)) c (rc τ0 (kd τ0 p io) + 1).toNat c) M)) τ3) ∨ (∃ τ1 κ τ3 L, R = some (τ1, 1) ∧ κ ≤ sbd d ∧ Rnd N κ τ1 τ3 ∧ NR τ0 τs k p c e L τ3 ∧ GO N τs k e (ab (c * gr τ0 p) (meeL (el τ0 70 p) (el τ0 69 p) (fun x => fndL (rowL τ0 d (kd τ0 p io)) (gr τ0 p) (gr τ0 (kd τ0 p io)) (x * gr τ0 (kd τ0 p io)) c (rc τ0 (kd τ0 p io) + 1).toNat c) M)) τ3 (1 + m * (sbd d + 2)))) := by
  obtain ⟨n1, n2, n3, n4⟩ := id hn
  obtain ⟨hHR, hT, hC, k0, k1, e0, e1, hN⟩ := id h
  obtain ⟨⟨g1, g2⟩, ⟨cp1, cp2⟩, ⟨rp1, rp2⟩, ⟨wp1, wp2⟩, -⟩ := hT.2.1
  have pp := hT.pos
  have bT := hT.2.2.1
  have cb := hC.abs hT.2.1
  have ph := phi_lo (show 0 ≤ wk τ0 p by omega)
  obtain ⟨ot, ⟨og1, og2⟩, ⟨oc1, oc2⟩, ⟨or1, or2⟩, ⟨ow1, ow2⟩, ocw⟩ := h.kn (i := io) (by omega) (by omega)
  have ml2 := n3.1
  have hK' : el τ0 70 p = 23 ∨ el τ0 70 p = 24 ∨ (el τ0 70 p = 25 ∧ i32 (el τ0 69 p)) := by
    rcases hK with ⟨x, -⟩ | ⟨x, -⟩ | ⟨x, -, y⟩
    · exact Or.inl x
    · exact Or.inr (Or.inl x)
    · exact Or.inr (Or.inr ⟨x, y⟩)
  have fv : ∀ q : Nat, ∀ x ∈ M, VO x.2.2 ∧ ∀ s, fndL (rowL τ0 d (kd τ0 p io)) (gr τ0 p) (gr τ0 (kd τ0 p io)) (x.1 * gr τ0 (kd τ0 p io)) c q c = some s → VO s := fun q x hx => ⟨(hM.1 x hx).2.2, fun s hs => by
    obtain ⟨j, y, hy, rfl⟩ := fndL_mem hs
    exact ((row_good d (kd τ0 p io) j ot).2.1 y hy).2.2⟩
  intro m
  induction m with
  | zero =>
    intro q τ2 hq hA hMS h34 h33 h36 h35
    have f84 := hA.2.2.2.2.2.2.1
    rw [ab_len] at f84
    obtain ⟨b, b1, b2⟩ := r_open_lp (N := N) (k := k) (p := p) (im := im) _ N τ2 0 e (by rw [msA_len]; omega) hMS (fun x hx s hs => by
      obtain ⟨y, hy, rfl⟩ := List.mem_map.1 hx
      exact (fv q y hy).2 s hs) e0 (by rw [msA_len]; omega) (by omega) (Or.inl rfl)
    obtain ⟨τ3, z1, z2⟩ := r_end' h hK' hA hMS (fv q) (by omega)
    refine ⟨_, rfl, Or.inl ⟨τ3, ?_, ?_⟩⟩
    · rw [r_sounds_148, grd_t (by exact ⟨by omega, by omega⟩), bnd, hA.2.2.2.2.1, b1, r_sounds_196]
      rcases b2 with ⟨rfl, -⟩ | ⟨rfl, -⟩
      · rw [grd_t (by decide), if_pos rfl, z1]
      · rw [grd_t (by decide), if_neg (by decide), grd_t (by exact ⟨by omega, by omega⟩), h34, h33, grd_t (by exact ⟨by omega, by omega⟩), grd_t (by exact ⟨by omega, by omega⟩), if_pos (by omega), z1]
    · rw [show (rc τ0 (kd τ0 p io) + 1).toNat = q by omega]
      exact z2
  | succ m ih =>
    intro q τ2 hq hA hMS h34 h33 h36 h35
    have f84 := hA.2.2.2.2.2.2.1
    rw [ab_len] at f84
    obtain ⟨b, b1, b2⟩ := r_open_lp (N := N) (k := k) (p := p) (im := im) _ N τ2 0 e (by rw [msA_len]; omega) hMS (fun x hx s hs => by
      obtain ⟨y, hy, rfl⟩ := List.mem_map.1 hx
      exact (fv q y hy).2 s hs) e0 (by rw [msA_len]; omega) (by omega) (Or.inl rfl)
    have head : r_sounds_148 N τ2 k p im = r_sounds_196 N τ2 k p im b := by
      rw [r_sounds_148, grd_t (by exact ⟨by omega, by omega⟩), bnd, hA.2.2.2.2.1, b1]
    rcases b2 with ⟨rfl, -, b3⟩ | ⟨rfl, b3⟩
    · -- none is open
      obtain ⟨τ3, z1, z2⟩ := r_end' h hK' hA hMS (fv q) (by omega)
      refine ⟨_, rfl, Or.inl ⟨τ3, ?_, ?_⟩⟩
      · rw [head, r_sounds_196, grd_t (by decide), if_pos rfl, z1]
      · have ee : meeL (el τ0 70 p) (el τ0 69 p) (fun x => fndL (rowL τ0 d (kd τ0 p io)) (gr τ0 p) (gr τ0 (kd τ0 p io)) (x * gr τ0 (kd τ0 p io)) c (rc τ0 (kd τ0 p io) + 1).toNat c) M = meeL (el τ0 70 p) (el τ0 69 p) (fun x => fndL (rowL τ0 d (kd τ0 p io)) (gr τ0 p) (gr τ0 (kd τ0 p io)) (x * gr τ0 (kd τ0 p io)) c q c) M := by
          have key : ∀ (f g : Int → Option Vl) (M : List Evt), (∀ x ∈ M, f x.1 = g x.1) → meeL (el τ0 70 p) (el τ0 69 p) f M = meeL (el τ0 70 p) (el τ0 69 p) g M := by
            intro f g M
            induction M with
            | nil => intro _; rfl
            | cons x l ih =>
              intro hx
              rw [meeL, meeL, hx x (by simp), ih (fun y hy => hx y (by simp [hy]))]
          refine key _ _ M (fun x hx => ?_)
          have := b3 _ (List.mem_map_of_mem hx)
          simp only at this
          cases hf : fndL (rowL τ0 d (kd τ0 p io)) (gr τ0 p) (gr τ0 (kd τ0 p io)) (x.1 * gr τ0 (kd τ0 p io)) c q c with
          | none => exact absurd hf this
          | some v => rw [show (rc τ0 (kd τ0 p io) + 1).toNat = q + (m + 1) by omega, fndL_mono (m + 1) q hf]
        rw [ee]
        exact z2
    · -- a row of the other
      have ok : cw τ0 (kd τ0 p im) = 0 ∨ 2 * wk τ0 (kd τ0 p io) ≤ wk τ0 p := by
        have mc := (h.kn (i := im) (by omega) (by omega)).2.2.1.1
        by_cases c0 : cw τ0 (kd τ0 p im) = 0
        · exact Or.inl c0
        · refine Or.inr ?_
          have u1 : 2 * wk τ0 (kd τ0 p io) ≤ cw τ0 (kd τ0 p im) * (rc τ0 (kd τ0 p io) + 1) * wk τ0 (kd τ0 p io) := by
            refine Int.mul_le_mul_of_nonneg_right ?_ (by omega)
            have := Int.mul_le_mul_of_nonneg_right (show 1 ≤ cw τ0 (kd τ0 p im) by omega) (show 0 ≤ rc τ0 (kd τ0 p io) + 1 by omega)
            omega
          omega
      have Mp : 1 ≤ M.length := by
        rcases b3 with b3 | b3
        · exact absurd b3 (by decide)
        · have : (msA (c * gr τ0 p) (fun x => fndL (rowL τ0 d (kd τ0 p io)) (gr τ0 p) (gr τ0 (kd τ0 p io)) (x * gr τ0 (kd τ0 p io)) c q c) M).length ≠ 0 := fun h0 => b3 (List.length_eq_zero_iff.1 h0)
          rw [msA_len] at this
          omega
      have ok2 : 2 * wk τ0 (kd τ0 p io) ≤ wk τ0 p := by omega
      have p2 := phi_two (show 0 ≤ wk τ0 (kd τ0 p io) by omega) ok2 wp2 oc2 ocw
      obtain ⟨τ1, κ, τ3, q1, q2, q3, q4, ⟨q5, q6, q7, q8, q9, q10, q11⟩, q12⟩ := nr_kidm h hA (i := io) (c' := c - q) (by omega) (by omega) (hC.same ow1 (by omega) (by omega) (by omega)) (by rw [ab_len]; omega)
      rw [ab_len] at q5 q12
      have gdo := row_good d (kd τ0 p io) (c - q) ot
      have gl := gdo.1
      refine ⟨some (τ1, 1), ?_, Or.inr ⟨τ1, κ, τ3, _, rfl, q2, q3, q4, ?_⟩⟩
      · rw [head, r_sounds_196, grd_t (by decide), if_neg (by decide), grd_t (by exact ⟨by omega, by omega⟩), h34, h33, grd_t (by exact ⟨by omega, by omega⟩), grd_t (by exact ⟨by omega, by omega⟩), if_neg (by omega), show 1 - im = io by omega, q1, Option.bind_some]
      · have f84' := q4.2.2.2.2.2.2.1
        rw [List.length_append, ab_len, ab_len] at f84'
        have hOA : At (RE τ3) (e + M.length) (ab ((c - q) * gr τ0 (kd τ0 p io)) (rowL τ0 d (kd τ0 p io) (c - q))) := by
          have := q4.2.2.2.2.2.2.2.rt
          rw [ab_len] at this
          exact this
        have hMS3 : At (MS τ3) e (msA (c * gr τ0 p) (fun x => fndL (rowL τ0 d (kd τ0 p io)) (gr τ0 p) (gr τ0 (kd τ0 p io)) (x * gr τ0 (kd τ0 p io)) c q c) M) := hMS.mono (fun i x i0 i1 _ hx => by
          rw [msA_len] at i1
          unfold MS RE at hx ⊢
          rw [q12 52 i (by decide) (by decide) i1, q12 51 i (by decide) (by decide) i1, q12 50 i (by decide) (by decide) i1, q12 49 i (by decide) (by decide) i1, q12 48 i (by decide) (by decide) i1, q12 47 i (by decide) (by decide) i1, q12 46 i (by decide) (by decide) i1, q12 45 i (by decide) (by decide) i1, q12 44 i (by decide) (by decide) i1, q12 43 i (by decide) (by decide) i1]
          exact hx)
        have lb : -100000000 ≤ (c - q - c) * gr τ0 (kd τ0 p io) ∧ (c - q - c) * gr τ0 (kd τ0 p io) ≤ 100000000 := by
          have u1 : (q : Int) * gr τ0 (kd τ0 p io) ≤ 64 * 1000000 := Int.mul_le_mul (by omega) og2 (by omega) (by omega)
          have u2 : 0 ≤ (q : Int) * gr τ0 (kd τ0 p io) := Int.mul_nonneg (by omega) (by omega)
          rw [show c - q - c = -(q : Int) by omega, Int.neg_mul]
          omega
        have rb : rc τ0 (kd τ0 p io) * gr τ0 (kd τ0 p io) ≤ 64 * 1000000 := Int.mul_le_mul or2 og2 (by omega) (by omega)
        obtain ⟨τ4, z1, z2, z3, z4⟩ := r_find_lp (N := N) (g := gr τ0 p) (h := gr τ0 (kd τ0 p io)) (later := (c - q - c) * gr τ0 (kd τ0 p io)) (cg := c * gr τ0 p) (ch := c * gr τ0 (kd τ0 p io)) (to := e + M.length) (e := e) (j := c - q) hN ⟨g1, g2⟩ ⟨og1, og2⟩ lb (fun x => by rw [Int.sub_mul (c - q)]; omega) (O := rowL τ0 d (kd τ0 p io) (c - q)) (fun o ho => by
          obtain ⟨⟨u1, u2⟩, ⟨u3, u4⟩, u5⟩ := gdo.2.1 o ho
          exact ⟨⟨u1, by omega, by omega, by omega⟩, u5⟩) e0 (M.map (fun x => (x, fndL (rowL τ0 d (kd τ0 p io)) (gr τ0 p) (gr τ0 (kd τ0 p io)) (x.1 * gr τ0 (kd τ0 p io)) c q c))) N τ3 [] (by rw [List.length_map]; omega) (by
            rw [List.nil_append, List.map_map]
            exact hMS3) (by rw [List.length_map]; simp) hOA (by omega) (by omega) (fun x hx => by
            obtain ⟨y, hy, rfl⟩ := List.mem_map.1 hx
            obtain ⟨⟨u1, u2⟩, -⟩ := hM.1 y hy
            exact ⟨⟨u1, by show y.1 ≤ 1000000; omega⟩, (fv q y hy).2⟩)
        simp only [List.length_nil, List.nil_append] at z1 z4
        rw [show e + ((0 : Nat) : Int) = e by omega] at z1
        have z4' : At (MS τ4) e (msA (c * gr τ0 p) (fun x => fndL (rowL τ0 d (kd τ0 p io)) (gr τ0 p) (gr τ0 (kd τ0 p io)) (x * gr τ0 (kd τ0 p io)) c (q + 1) c) M) := by
          rw [List.map_map, List.map_map] at z4
          have : msA (c * gr τ0 p) (fun x => fndL (rowL τ0 d (kd τ0 p io)) (gr τ0 p) (gr τ0 (kd τ0 p io)) (x * gr τ0 (kd τ0 p io)) c (q + 1) c) M = M.map ((fun x : Evt × Option Vl => ((x.1.1 + c * gr τ0 p, x.1.1 + x.1.2.1 + c * gr τ0 p, x.1.2.2), x.2)) ∘ (mtO (gr τ0 p) (gr τ0 (kd τ0 p io)) ((c - q - c) * gr τ0 (kd τ0 p io)) (rowL τ0 d (kd τ0 p io) (c - q)) ∘ fun x => (x, fndL (rowL τ0 d (kd τ0 p io)) (gr τ0 p) (gr τ0 (kd τ0 p io)) (x.1 * gr τ0 (kd τ0 p io)) c q c))) := by
            refine List.map_congr_left (fun x _ => ?_)
            show ((x.1 + c * gr τ0 p, x.1 + x.2.1 + c * gr τ0 p, x.2.2), fndL (rowL τ0 d (kd τ0 p io)) (gr τ0 p) (gr τ0 (kd τ0 p io)) (x.1 * gr τ0 (kd τ0 p io)) c (q + 1) c) = ((x.1 + c * gr τ0 p, x.1 + x.2.1 + c * gr τ0 p, x.2.2), match fndL (rowL τ0 d (kd τ0 p io)) (gr τ0 p) (gr τ0 (kd τ0 p io)) (x.1 * gr τ0 (kd τ0 p io)) c q c with
              | some v => some v
              | none => lstL (sou (gr τ0 p) (gr τ0 (kd τ0 p io)) ((c - q - c) * gr τ0 (kd τ0 p io)) (x.1 * gr τ0 (kd τ0 p io))) (rowL τ0 d (kd τ0 p io) (c - q)))
            rw [fndL_snoc]
            cases fndL (rowL τ0 d (kd τ0 p io)) (gr τ0 p) (gr τ0 (kd τ0 p io)) (x.1 * gr τ0 (kd τ0 p io)) c q c <;> rfl
          rw [this]
          exact z4
        -- the state after it
        have w : ∀ a j, a < 43 → el τ4 a j = el τ3 a j := fun a j ha => z3 a j (by omega)
        have q4' : NR τ0 τs k p c e (ab (c * gr τ0 p) M) (se (sf τ4 84 0 (el τ4 35 k)) 34 k (el τ4 34 k - 1)) := by
          refine NR.se ?_ (a := 34) (by decide) _
          have hP : RP e τ3 (sf τ4 84 0 (el τ4 35 k)) := ⟨fun f i hf => by rw [fl_sfn _ _ _ _ hf, z2], fun a j ha => by rw [el_sf]; exact z3 a j (by omega), fun a j hj => by rw [el_sf]; exact z3 a j (by omega)⟩
          have := NR.ev (A := []) (L := ab (c * gr τ0 p) M ++ ab ((c - q) * gr τ0 (kd τ0 p io)) (rowL τ0 d (kd τ0 p io) (c - q))) (M := ab (c * gr τ0 p) M) (τ' := sf τ4 84 0 (el τ4 35 k)) q4 (by simp only [List.length_nil]; rw [show e + ((0 : Nat) : Int) = e by omega]; exact hP) (by rw [fl_sfs, w 35 k (by decide), q9, h35, ab_len]; simp only [List.length_nil]; omega) (by
            simp only [List.length_nil]
            rw [show e + ((0 : Nat) : Int) = e by omega]
            have := msA_re z4'
            exact this)
          exact this
        obtain ⟨R, r1, r2⟩ := ih (q + 1) _ (by omega) q4' (z4'.mono (fun i x i0 i1 _ hx => by
          unfold MS RE at hx ⊢
          simp only [el_se, el_sf]
          exact hx)) (by rw [el_ses, w 34 k (by decide), q10, h34]; omega) (by rw [el_sen _ _ _ _ (by decide), el_sf, w 33 k (by decide), q11, h33]) (by rw [el_sen _ _ _ _ (by decide), el_sf, w 36 k (by decide), q8, h36]) (by rw [el_sen _ _ _ _ (by decide), el_sf, w 35 k (by decide), q9, h35])
        have rf : r_find N τ3 k p = some τ4 := by
          rw [r_find, grd_t (by exact ⟨by omega, by omega⟩), q4.t 63 _ (by decide), show el τ0 63 p = gr τ0 p from rfl, grd_t (by exact ⟨by omega, by omega⟩), bnd, q4.grn h q7 (by omega) (by omega), Option.bind_some, grd_t (by exact ⟨by omega, by omega⟩), bnd, bnd, bnd, bnd, q4.2.2.2.1, q9, h35, q4.2.2.2.2.1]
          exact z1
        have rr : r_sounds N τ3 k p c = R := by
          have t16 : r_sounds_16 N τ3 k p c im = R := by
            rw [r_sounds_16, grd_t (by exact ⟨by omega, by omega⟩), q6, grd_t (by decide), if_neg (by decide), q7, grd_t (by exact ⟨by omega, by omega⟩), grd_t (by exact ⟨by omega, by omega⟩), if_neg (by omega), r_sounds_121, rf, Option.bind_some, grd_t (by exact ⟨by omega, by omega⟩)]
            exact r1
          rw [r_sounds, grd_t (by exact ⟨by omega, by omega⟩), q4.t 70 _ (by decide), grd_t (by exact ⟨by omega, by omega⟩)]
          by_cases c24 : el τ0 70 p = 24
          · rw [if_pos c24, show (1 : Int) = im by omega]; exact t16
          · rw [if_neg c24, show (0 : Int) = im by omega]; exact t16
        obtain ⟨-, st⟩ := r_step_k h q4
        refine (GO.res h q4 (st (r_sounds N τ3 k p c) (Or.inr (Or.inr (Or.inr (Or.inr (Or.inr (Or.inr (Or.inr (Or.inr ⟨by omega, rfl⟩))))))))) rr r2).wk ?_
        rw [Nat.succ_mul]
        omega
theorem rk_snd {τ : St} (h : PR2 N τ0 d k p c (fl τ 84 0)) (tb : TB τ0 τ) (hF : FRM τ k p c) {im io : Int} (h01 : (im = 0 ∧ io = 1) ∨ (im = 1 ∧ io = 0)) (hn : NK23 τ0 p (kd τ0 p im) (kd τ0 p io)) (hK : (el τ0 70 p = 23 ∧ im = 0) ∨ (el τ0 70 p = 24 ∧ im = 1) ∨ (el τ0 70 p = 25 ∧ im = 0 ∧ i32 (el τ0 69 p))) : GO N τ k (fl τ 84 0) (ab (c * gr τ0 p) (rowK τ0 (rowL τ0 d) p c)) τ (1 + (1 + 65 * (sbd d + 2)) + (sbd d + 1) + (sbd d + 1)) := by
  obtain ⟨n1, n2, n3, n4⟩ := id hn
  obtain ⟨hHR, hT, hC, k0, k1, e0, e1, hN⟩ := id h
  obtain ⟨⟨g1, g2⟩, ⟨cp1, cp2⟩, ⟨rp1, rp2⟩, ⟨wp1, wp2⟩, -⟩ := hT.2.1
  have pp := hT.pos
  have bT := hT.2.2.1
  have cb := hC.abs hT.2.1
  have ph := phi_lo (show 0 ≤ wk τ0 p by omega)
  obtain ⟨ot, ⟨og1, og2⟩, ⟨oc1, oc2⟩, ⟨or1, or2⟩, ⟨ow1, ow2⟩, ocw⟩ := h.kn (i := io) (by omega) (by omega)
  obtain ⟨mt, ⟨mg1, mg2⟩, ⟨mc1, mc2⟩, ⟨mr1, mr2⟩, ⟨mw1, mw2⟩, mcw⟩ := h.kn (i := im) (by omega) (by omega)
  have s1 := n3.1
  have s3 := n3.2.2
  have pm := phi_mono s3 wp2
  have hA0 := NR.rf (τ0 := τ0) tb hF
  obtain ⟨τ1, κ, τ2, q1, q2, q3, q4, ⟨q5, q6, q7, q8, q9, q10, q11⟩, q12⟩ := nr_kidm h hA0 (i := im) (c' := c) (by omega) (by omega) (hC.same mw1 s3 (by omega) (by omega)) (by simp only [List.length_nil]; omega)
  rw [List.nil_append, n2] at q4
  have gm := row_good d (kd τ0 p im) c mt
  have gl := gm.1
  have K24 : ∀ t : St, TB τ0 t → r_sounds N t k p c = r_sounds_16 N t k p c im := fun t ht => by
    rw [r_sounds, grd_t (by exact ⟨by omega, by omega⟩), ht.1 70 _ (by decide), grd_t (by exact ⟨by omega, by omega⟩)]
    by_cases c24 : el τ0 70 p = 24
    · rw [if_pos c24, show (1 : Int) = im by omega]
    · rw [if_neg c24, show (0 : Int) = im by omega]
  have hstep : r_step N τ k = some τ1 := by
    obtain ⟨-, st⟩ := r_step_k h hA0
    rw [st (r_sounds N τ k p c) (Or.inr (Or.inr (Or.inr (Or.inr (Or.inr (Or.inr (Or.inr (Or.inr ⟨by omega, rfl⟩)))))))), K24 τ tb, r_sounds_16, grd_t (by exact ⟨by omega, by omega⟩), hF.2.2.2.1, grd_t (by decide), if_pos rfl, q1, Option.bind_some, fin1]
  refine GO.call h hA0 hstep q3 q2 ?_
  -- what begins
  have f84 := q4.2.2.2.2.2.2.1
  rw [ab_len] at f84
  obtain ⟨lm, lm1, lm2⟩ := RE.rm q4.2.2.2.2.2.2.2
  have lml : lm.length = (rowL τ0 d (kd τ0 p im) c).length := by
    have := congrArg List.length lm2
    rw [List.length_map, ab_len] at this
    exact this
  have vm : ∀ x ∈ rowL τ0 d (kd τ0 p im) c, VO x.2.2 := fun x hx => (gm.2.1 x hx).2.2
  obtain ⟨τ3, z1, z2, z3, z4⟩ := r_beg_lp (e := fl τ 84 0) h lm N τ2 [] (fl τ 84 0) (rowL τ0 d (kd τ0 p im) c) (by omega) q4.1 trivial lm1 lm2 vm (by simp) (by omega) (by omega)
  simp only [List.length_nil, List.nil_append] at z1 z3 z4
  rw [show fl τ 84 0 + ((0 : Nat) : Int) = fl τ 84 0 by omega] at z1 z3
  have er : rowK τ0 (rowL τ0 d) p c = meeL (el τ0 70 p) (el τ0 69 p) (fun x => fndL (rowL τ0 d (kd τ0 p io)) (gr τ0 p) (gr τ0 (kd τ0 p io)) (x * gr τ0 (kd τ0 p io)) c (rc τ0 (kd τ0 p io) + 1).toNat c) (if el τ0 70 p = 23 then (rowL τ0 d (kd τ0 p im) c).filter (fun e => louE e.2.2) else rowL τ0 d (kd τ0 p im) c) := by
    rcases h01 with ⟨rfl, rfl⟩ | ⟨rfl, rfl⟩
    · have e24 : ¬ el τ0 70 p = 24 := by omega
      rcases hK with ⟨hK, -⟩ | ⟨hK, hx⟩ | ⟨hK, -, -⟩
      · unfold rowK
        simp only [hK]
        unfold metL
        rw [hK]
        rfl
      · exact absurd hx (by decide)
      · unfold rowK
        simp only [hK]
        unfold metL
        rw [hK]
        rfl
    · have hK : el τ0 70 p = 24 := by omega
      unfold rowK
      simp only [hK]
      unfold metL
      rw [hK]
      rfl
  have gM0 : Gd 0 (gr τ0 p) (rc τ0 p * gr τ0 p) (rowL τ0 d (kd τ0 p im) c) := by
    have := gm.2
    rw [n2] at this
    exact this.wk (Int.le_refl _) (Int.le_refl _) (Int.mul_le_mul_of_nonneg_right n3.2.1 (by omega))
  have gM : Gd 0 (gr τ0 p) (rc τ0 p * gr τ0 p) (if el τ0 70 p = 23 then (rowL τ0 d (kd τ0 p im) c).filter (fun e => louE e.2.2) else rowL τ0 d (kd τ0 p im) c) ∧ ((if el τ0 70 p = 23 then (rowL τ0 d (kd τ0 p im) c).filter (fun e => louE e.2.2) else rowL τ0 d (kd τ0 p im) c).length : Int) ≤ cw τ0 (kd τ0 p im) := by
    split
    · have := flt_len (fun e => louE e.2.2) (rowL τ0 d (kd τ0 p im) c)
      exact ⟨gM0.flt _, by omega⟩
    · exact ⟨gM0, gl⟩
  rw [er]
  generalize (if el τ0 70 p = 23 then (rowL τ0 d (kd τ0 p im) c).filter (fun e => louE e.2.2) else rowL τ0 d (kd τ0 p im) c) = M at z3 z4 gM
  have w : ∀ a j, a < 43 → el τ3 a j = el τ2 a j := fun a j ha => z2.2.1 a j (Or.inl ha)
  have z4' : At (MS τ3) (fl τ 84 0) (msA (c * gr τ0 p) (fun x => fndL (rowL τ0 d (kd τ0 p io)) (gr τ0 p) (gr τ0 (kd τ0 p io)) (x * gr τ0 (kd τ0 p io)) c 0 c) M) := by
    have : msA (c * gr τ0 p) (fun x => fndL (rowL τ0 d (kd τ0 p io)) (gr τ0 p) (gr τ0 (kd τ0 p io)) (x * gr τ0 (kd τ0 p io)) c 0 c) M = (ab (c * gr τ0 p) M).map (fun x => (x, none)) := by
      unfold ab
      rw [List.map_map]
      rfl
    rw [this]
    exact z4
  have q5' : NR τ0 τ k p c (fl τ 84 0) (ab (c * gr τ0 p) M) τ3 := by
    have := NR.ev (A := []) (L := ab (c * gr τ0 p) (rowL τ0 d (kd τ0 p im) c)) (M := ab (c * gr τ0 p) M) (τ' := τ3) q4 (by simp only [List.length_nil]; rw [show fl τ 84 0 + ((0 : Nat) : Int) = fl τ 84 0 by omega]; exact z2) (by rw [ab_len]; simp only [List.length_nil]; omega) (by
      simp only [List.length_nil]
      rw [show fl τ 84 0 + ((0 : Nat) : Int) = fl τ 84 0 by omega]
      have := msA_re z4'
      exact this)
    exact this
  have kio : el τ0 58 (el τ0 65 p + 1 - im) = kd τ0 p io := by
    show _ = el τ0 58 (el τ0 65 p + io)
    rw [show el τ0 65 p + 1 - im = el τ0 65 p + io by omega]
  have otp := ot.pos
  obtain ⟨R, r1, r2⟩ := rk_snd_lp (τs := τ) h h01 hn hK gM.1 gM.2 (rc τ0 (kd τ0 p io) + 1).toNat 0 (se (se (se (se τ3 34 k c) 33 k (c - rc τ0 (kd τ0 p io))) 36 k 1) 35 k (fl τ3 84 0)) (by omega) ((((q5'.se (a := 34) (by decide) _).se (a := 33) (by decide) _).se (a := 36) (by decide) _).se (a := 35) (by decide) _) (z4'.mono (fun i x i0 i1 _ hx => by
    unfold MS RE at hx ⊢
    simp only [el_se]
    exact hx)) (by simp [el_se]) (by simp [el_se]) (by simp [el_se]) (by rw [el_ses, z3])
  obtain ⟨-, st⟩ := r_step_k h q4
  refine (GO.res h q4 (st (r_sounds N τ2 k p c) (Or.inr (Or.inr (Or.inr (Or.inr (Or.inr (Or.inr (Or.inr (Or.inr ⟨by omega, rfl⟩))))))))) (R := R) ?_ r2).wk ?_
  · rw [K24 τ2 q4.1, r_sounds_16, grd_t (by exact ⟨by omega, by omega⟩), q6, grd_t (by decide), if_neg (by decide), q7, grd_t (by exact ⟨by omega, by omega⟩), grd_t (by exact ⟨by omega, by omega⟩), if_pos rfl, q8, hF.2.2.2.2.2.2.2.1, grd_t (by decide), if_pos rfl, r_beginSounds, grd_t (by exact ⟨by omega, by omega⟩), bnd, bnd, q4.2.2.2.2.1, z1, Option.bind_some, grd_t (by exact ⟨by omega, by omega⟩), q5'.t 65 _ (by decide), grd_t (by exact ⟨by omega, by omega⟩), q5'.t 58 _ (by decide), kio, grd_t (by exact ⟨by omega, by omega⟩), q5'.t 61 _ (by decide), show el τ0 61 (kd τ0 p io) = rc τ0 (kd τ0 p io) from rfl, grd_t (by exact ⟨by omega, by omega⟩), grd_t (by exact ⟨by omega, by omega⟩)]
    exact r1
  · have : (rc τ0 (kd τ0 p io) + 1).toNat * (sbd d + 2) ≤ 65 * (sbd d + 2) := Nat.mul_le_mul_right _ (by omega)
    omega
end RW3
