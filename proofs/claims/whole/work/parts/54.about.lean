/-! bound, about -/
section SB
variable {PR : PRt} {DR : DRt} {RW : Int → Int → Int → Prop} {N n : Nat}
theorem cnt_pat {π : Sh} {σ τ : St} : ∀ (m k k' : Nat) (x c : Int), m < k → m < k' → x + m = 8 → 0 ≤ x → (∀ t, x ≤ t → t < 8 → (el σ 51 t < 0 ↔ el τ 28 t = -1) ∧ i32 (el τ 28 t)) → ∃ v, Cs_tracksWithPattern_4 N π k σ c x = some (σ, v) ∧ r_about_61 N k' τ c x = some (τ, v)
  | 0, 0, _, _, _, h, _, _, _, _ => absurd h (by omega)
  | 0, _ + 1, 0, _, _, _, h, _, _, _ => absurd h (by omega)
  | 0, k + 1, k' + 1, x, c, _, _, hx, h0, _ => by
    refine ⟨c, ?_, ?_⟩
    · rw [Cs_tracksWithPattern_4, grd_t (by exact ⟨by omega, by omega⟩), if_neg (by omega)]
    · rw [r_about_61, grd_t (by exact ⟨by omega, by omega⟩), if_neg (by omega)]
  | m + 1, 0, _, _, _, h, _, _, _, _ => absurd h (by omega)
  | m + 1, _ + 1, 0, _, _, _, h, _, _, _ => absurd h (by omega)
  | m + 1, k + 1, k' + 1, x, c, h1, h2, hx, h0, hw => by
    obtain ⟨a, b⟩ := hw x (by omega) (by omega)
    by_cases d : el τ 28 x = -1
    · obtain ⟨v, e1, e2⟩ := cnt_pat m k k' (x + 1) (c + 0) (by omega) (by omega) (by omega) (by omega) (fun t p q => hw t (by omega) q)
      refine ⟨v, ?_, ?_⟩
      · rw [Cs_tracksWithPattern_4, grd_t (by exact ⟨by omega, by omega⟩), if_pos (by omega), grd_t (by exact ⟨by omega, by omega⟩), if_pos (a.mpr d)]
        exact e1
      · rw [r_about_61, grd_t (by exact ⟨by omega, by omega⟩), if_pos (by omega), grd_t (by exact ⟨by omega, by omega⟩), grd_t b, if_pos d]
        exact e2
    · obtain ⟨v, e1, e2⟩ := cnt_pat m k k' (x + 1) (c + 1) (by omega) (by omega) (by omega) (by omega) (fun t p q => hw t (by omega) q)
      refine ⟨v, ?_, ?_⟩
      · rw [Cs_tracksWithPattern_4, grd_t (by exact ⟨by omega, by omega⟩), if_pos (by omega), grd_t (by exact ⟨by omega, by omega⟩), if_neg (fun q => d (a.mp q))]
        exact e1
      · rw [r_about_61, grd_t (by exact ⟨by omega, by omega⟩), if_pos (by omega), grd_t (by exact ⟨by omega, by omega⟩), grd_t b, if_neg d]
        exact e2
theorem cnt_wait {π : Sh} {σ τ : St} : ∀ (m k k' : Nat) (x c : Int), m < k → m < k' → x + m = 8 → 0 ≤ x → (∀ t, x ≤ t → t < 8 → (el σ 53 t = 0 ↔ el τ 27 t = -2) ∧ i32 (el τ 27 t) ∧ i32 (el σ 53 t)) → ∃ v, Cs_tracksWaiting_4 N π k σ c x = some (σ, v) ∧ r_about_95 N k' τ c x = some (τ, v)
  | 0, 0, _, _, _, h, _, _, _, _ => absurd h (by omega)
  | 0, _ + 1, 0, _, _, _, h, _, _, _ => absurd h (by omega)
  | 0, k + 1, k' + 1, x, c, _, _, hx, h0, _ => by
    refine ⟨c, ?_, ?_⟩
    · rw [Cs_tracksWaiting_4, grd_t (by exact ⟨by omega, by omega⟩), if_neg (by omega)]
    · rw [r_about_95, grd_t (by exact ⟨by omega, by omega⟩), if_neg (by omega)]
  | m + 1, 0, _, _, _, h, _, _, _, _ => absurd h (by omega)
  | m + 1, _ + 1, 0, _, _, _, h, _, _, _ => absurd h (by omega)
  | m + 1, k + 1, k' + 1, x, c, h1, h2, hx, h0, hw => by
    obtain ⟨a, b, b2⟩ := hw x (by omega) (by omega)
    by_cases d : el τ 27 x = -2
    · obtain ⟨v, e1, e2⟩ := cnt_wait m k k' (x + 1) (c + 0) (by omega) (by omega) (by omega) (by omega) (fun t p q => hw t (by omega) q)
      refine ⟨v, ?_, ?_⟩
      · rw [Cs_tracksWaiting_4, grd_t (by exact ⟨by omega, by omega⟩), if_pos (by omega), grd_t (by exact ⟨by omega, by omega⟩), grd_t b2, if_pos (a.mpr d)]
        exact e1
      · rw [r_about_95, grd_t (by exact ⟨by omega, by omega⟩), if_pos (by omega), grd_t (by exact ⟨by omega, by omega⟩), grd_t b, if_pos d]
        exact e2
    · obtain ⟨v, e1, e2⟩ := cnt_wait m k k' (x + 1) (c + 1) (by omega) (by omega) (by omega) (by omega) (fun t p q => hw t (by omega) q)
      refine ⟨v, ?_, ?_⟩
      · rw [Cs_tracksWaiting_4, grd_t (by exact ⟨by omega, by omega⟩), if_pos (by omega), grd_t (by exact ⟨by omega, by omega⟩), grd_t b2, if_neg (fun q => d (a.mp q))]
        exact e1
      · rw [r_about_95, grd_t (by exact ⟨by omega, by omega⟩), if_pos (by omega), grd_t (by exact ⟨by omega, by omega⟩), grd_t b, if_neg d]
        exact e2
theorem st_about (hN : 64 ≤ N) (hI : Inn PR DR) (hn : n < 512) : St_about N (RO PR DR RW n) (RO PR DR RW (n + 1)) := by
  intro π σ τ x1 h i1
  have hu := h.up hI hn
  obtain ⟨h1, h2, h3, h4, h5, h6, h7, h8⟩ := id h
  obtain ⟨⟨m1, m2, m3, m4, m5⟩, m6, -⟩ := id h3
  obtain ⟨-, -, d1, d2, d3⟩ := hI.2.2.2.2.2 n π σ τ h8
  have hb : i32 (fl σ 253 0) := ⟨by omega, by omega⟩
  by_cases c0 : x1 = 0
  · refine ⟨σ, τ, fl τ 115 0, ?_, ?_, hu⟩
    · rw [Cs_about, grd_t i1, if_pos c0, grd_t hb, Int.tdiv_eq_ediv_of_nonneg (by omega)]
      have : fl σ 253 0 / 960 = fl τ 115 0 := by omega
      rw [this]
    · rw [r_about, grd_t i1, if_pos c0]
  by_cases c1 : x1 = 1
  · refine ⟨σ, τ, fl τ 116 0, ?_, ?_, hu⟩
    · rw [Cs_about, grd_t i1, if_neg c0, if_pos c1, grd_t hb, Int.tmod_eq_emod_of_nonneg (by omega)]
      have : fl σ 253 0 % 960 = fl τ 116 0 := by omega
      rw [this]
    · rw [r_about, grd_t i1, if_neg c0, if_pos c1]
  by_cases c2 : x1 = 2
  · refine ⟨σ, τ, fl τ 34 0, ?_, ?_, hu⟩
    · rw [Cs_about, grd_t i1, if_neg c0, if_neg c1, if_pos c2, L_size, grd_t (show ob π 42 0 from h1.1.ob (i := 42) (t := 0) (n := 0) (by omega) rfl), d1]
      rfl
    · rw [r_about, grd_t i1, if_neg c0, if_neg c1, if_pos c2]
  by_cases c3 : x1 = 3
  · obtain ⟨v, e1, e2⟩ := cnt_pat (N := N) (π := π) (σ := σ) (τ := τ) 8 N N 0 0 (by omega) (by omega) (by omega) (by omega) (fun t a b => by
      have k := (h5 t a b).1
      refine ⟨?_, (pr_i32 hI k).2.1⟩
      rcases hI.2.2.2.2.1 π σ τ _ _ k with ⟨p, q⟩ | ⟨p, q, -⟩
      · rw [p, q]
        decide
      · have := p.1
        constructor <;> intro <;> omega)
    refine ⟨σ, τ, v, ?_, ?_, hu⟩
    · rw [Cs_about, grd_t i1, if_neg c0, if_neg c1, if_neg c2, if_pos c3, Cs_tracksWithPattern, e1]
      rfl
    · rw [r_about, grd_t i1, if_neg c0, if_neg c1, if_neg c2, if_pos c3, e2]
  by_cases c4 : x1 = 4
  · obtain ⟨v, e1, e2⟩ := cnt_wait (N := N) (π := π) (σ := σ) (τ := τ) 8 N N 0 0 (by omega) (by omega) (by omega) (by omega) (fun t a b => by
      rcases (h5 t a b).2 with ⟨p, q⟩ | ⟨p, q, -⟩
      · rw [p, q]
        decide
      · have k := pr_i32 hI q
        rw [p]
        exact ⟨⟨fun z => absurd z (by decide), fun z => absurd z k.2.2⟩, k.2.1, by decide⟩)
    refine ⟨σ, τ, v, ?_, ?_, hu⟩
    · rw [Cs_about, grd_t i1, if_neg c0, if_neg c1, if_neg c2, if_neg c3, if_pos c4, Cs_tracksWaiting, e1]
      rfl
    · rw [r_about, grd_t i1, if_neg c0, if_neg c1, if_neg c2, if_neg c3, if_pos c4, e2]
  by_cases c5 : x1 = 5
  · refine ⟨σ, τ, fl τ 117 0, ?_, ?_, hu⟩
    · rw [Cs_about, grd_t i1, if_neg c0, if_neg c1, if_neg c2, if_neg c3, if_neg c4, if_pos c5, m6.1]
    · rw [r_about, grd_t i1, if_neg c0, if_neg c1, if_neg c2, if_neg c3, if_neg c4, if_pos c5]
  by_cases c6 : x1 = 6
  · refine ⟨σ, τ, fl τ 1 0, ?_, ?_, hu⟩
    · rw [Cs_about, grd_t i1, if_neg c0, if_neg c1, if_neg c2, if_neg c3, if_neg c4, if_neg c5, if_pos c6, h2.1]
    · rw [r_about, grd_t i1, if_neg c0, if_neg c1, if_neg c2, if_neg c3, if_neg c4, if_neg c5, if_pos c6]
  refine ⟨σ, τ, -1, ?_, ?_, hu⟩
  · rw [Cs_about, grd_t i1, if_neg c0, if_neg c1, if_neg c2, if_neg c3, if_neg c4, if_neg c5, if_neg c6]
  · rw [r_about, grd_t i1, if_neg c0, if_neg c1, if_neg c2, if_neg c3, if_neg c4, if_neg c5, if_neg c6]
theorem st_bound (hI : Inn PR DR) (hn : n < 512) : St_bound N (RO PR DR RW n) (RO PR DR RW (n + 1)) := by
  intro π σ τ x1 x2 h i1 i2
  have hu := h.up hI hn
  by_cases c : 0 ≤ x1 ∧ x1 < 8
  · have k := (h.2.2.2.2.1 x1 c.1 c.2).1
    have e1 : ∀ X : Option (St × Int), (Cs_bound N π σ x1 x2 = X) = ((if el σ 51 x1 < 0 then some (σ, -1) else grd (i32 x2) (if x2 = 0 then grd (ob π (el σ 51 x1) 5) (some (σ, fl σ 102 (el σ 51 x1))) else if x2 = 1 then grd (ob π (el σ 51 x1) 5) (some (σ, fl σ 103 (el σ 51 x1))) else if x2 = 2 then grd (ob π (el σ 51 x1) 5) (some (σ, fl σ 104 (el σ 51 x1))) else if x2 = 3 then grd (ob π (el σ 51 x1) 5) (some (σ, fl σ 105 (el σ 51 x1))) else if x2 = 4 then grd (ob π (el σ 51 x1) 5) (some (σ, fl σ 106 (el σ 51 x1))) else some (σ, -1))) = X) := fun X => by
      rw [Cs_bound, cs_track i1, if_pos c]
      show (grd (i32 1) _ = _) = _
      rw [grd_t (by decide), if_neg (by decide), grd_t (by exact c)]
      rfl
    have e2 : ∀ X : Option (St × Int), (r_bound N τ x1 x2 = X) = (grd (i32 (el τ 28 x1)) (if el τ 28 x1 = -1 then some (τ, -1) else grd (i32 x2) (if x2 = 0 then grd (inb (el τ 28 x1) 103000) (some (τ, el τ 63 (el τ 28 x1))) else if x2 = 1 then grd (inb (el τ 28 x1) 103000) (some (τ, el τ 62 (el τ 28 x1))) else if x2 = 2 then grd (inb (el τ 28 x1) 103000) (some (τ, el τ 61 (el τ 28 x1))) else if x2 = 3 then grd (inb (el τ 28 x1) 103000) (some (τ, el τ 60 (el τ 28 x1))) else if x2 = 4 then grd (inb (el τ 28 x1) 103000) (some (τ, el τ 59 (el τ 28 x1))) else some (τ, -1))) = X) := fun X => by
      rw [r_bound, rr_track i1, if_pos c]
      show (grd (i32 1) _ = _) = _
      rw [grd_t (by decide)]
      show ((if (1 : Int) = 0 then _ else _) = _) = _
      rw [if_neg (by decide), grd_t (by exact c)]
      rfl
    simp only [e1, e2]
    rcases hI.2.2.2.2.1 π σ τ _ _ k with ⟨p, q⟩ | ⟨p, q, q2, b0, b1, b2, b3, b4⟩
    · refine ⟨σ, τ, -1, ?_, ?_, hu⟩
      · rw [if_pos (by omega)]
      · rw [q, grd_t (by decide), if_pos rfl]
    · have p0 := p.1
      rw [if_neg (show ¬ el σ 51 x1 < 0 by omega), grd_t i2, grd_t (show i32 (el τ 28 x1) from ⟨by omega, by omega⟩), if_neg (show ¬ el τ 28 x1 = -1 by omega)]
      simp only [grd_t i2, grd_t p, grd_t (show inb (el τ 28 x1) 103000 from ⟨q, by omega⟩), b0.1, b1.1, b2.1, b3.1, b4.1]
      by_cases c0 : x2 = 0
      · exact ⟨σ, τ, el τ 63 (el τ 28 x1), by rw [if_pos c0], by rw [if_pos c0], hu⟩
      by_cases c1 : x2 = 1
      · exact ⟨σ, τ, el τ 62 (el τ 28 x1), by rw [if_neg c0, if_pos c1], by rw [if_neg c0, if_pos c1], hu⟩
      by_cases c2 : x2 = 2
      · exact ⟨σ, τ, el τ 61 (el τ 28 x1), by rw [if_neg c0, if_neg c1, if_pos c2], by rw [if_neg c0, if_neg c1, if_pos c2], hu⟩
      by_cases c3 : x2 = 3
      · exact ⟨σ, τ, el τ 60 (el τ 28 x1), by rw [if_neg c0, if_neg c1, if_neg c2, if_pos c3], by rw [if_neg c0, if_neg c1, if_neg c2, if_pos c3], hu⟩
      by_cases c4 : x2 = 4
      · exact ⟨σ, τ, el τ 59 (el τ 28 x1), by rw [if_neg c0, if_neg c1, if_neg c2, if_neg c3, if_pos c4], by rw [if_neg c0, if_neg c1, if_neg c2, if_neg c3, if_pos c4], hu⟩
      exact ⟨σ, τ, -1, by rw [if_neg c0, if_neg c1, if_neg c2, if_neg c3, if_neg c4], by rw [if_neg c0, if_neg c1, if_neg c2, if_neg c3, if_neg c4], hu⟩
  · refine ⟨σ, τ, -1, ?_, ?_, hu⟩
    · rw [Cs_bound, cs_track i1, if_neg c]
      show grd (i32 0) _ = _
      rw [grd_t (by decide), if_pos rfl]
    · rw [r_bound, rr_track i1, if_neg c]
      show grd (i32 0) _ = _
      rw [grd_t (by decide)]
      show (if (0 : Int) = 0 then _ else _) = _
      rw [if_pos rfl]
end SB
