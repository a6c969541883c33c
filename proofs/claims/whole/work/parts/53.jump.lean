/-! jump, hush -/
section SJ
variable {PR : PRt} {DR : DRt} {RW : Int → Int → Int → Prop} {N n : Nat}
theorem tmod0 (x : Int) : Int.tmod (x * 960) 960 = 0 := Int.mul_tmod_left x 960
theorem st_jump (hN : 64 ≤ N) (hI : Inn PR DR) (hn : n < 512) : St_jump N (RO PR DR RW n) (RO PR DR RW (n + 1)) := by
  intro π σ τ x1 h i1
  obtain ⟨h1, h2, h3, h4, h5, h6, h7, h8⟩ := id h
  by_cases c : 0 ≤ x1 ∧ x1 < 100000
  · have hC1 : SameC σ (sf σ 253 0 (x1 * 960)) := (SameC.rf σ).sf _ _ (nF (by omega))
    have hR1 : SameR τ (sf (sf τ 115 0 x1) 116 0 0) := ((SameR.rf τ).sf _ _ (by unfold inR; omega)).sf _ _ (by unfold inR; omega)
    have hw : RTw PR π (sf σ 253 0 (x1 * 960)) (sf (sf τ 115 0 x1) 116 0 0) := fun t a b => ⟨hI.1 _ _ _ _ _ _ _ hC1 hR1 (h5.w t a b).1, (h5.w t a b).2.elim Or.inl (fun k => Or.inr ⟨k.1, hI.1 _ _ _ _ _ _ _ hC1 hR1 k.2⟩)⟩
    obtain ⟨σ', τ', e1, e2, s, w, hk⟩ := both_settle hI hN hw
    have a1 : fl (sf σ 253 0 (x1 * 960)) 253 0 = x1 * 960 := fl_sfs _ _ _ _
    have k1 : Cs_jump N π σ x1 = some (σ', 1) := by
      rw [Cs_jump, grd_t i1, if_neg (by omega), if_pos c.2]
      show Option.bind (Cs_settle N π (sf σ 253 0 (x1 * 960))) _ = _
      rw [Cs_settle, a1, grd_t (by exact ⟨by omega, by omega⟩), tmod0, grd_t (by decide), if_pos rfl, e1]
      rfl
    have k2 : r_jump N τ x1 = some (τ', 1) := by
      rw [r_jump, grd_t i1, if_neg (by omega), if_pos c.2]
      show Option.bind (r_swaps N (sf (sf τ 115 0 x1) 116 0 0)) _ = _
      rw [e2]
      rfl
    refine ⟨σ', τ', 1, k1, k2, km_Cs_jump h1 k1, ?_, ?_, ?_, hk, ?_, ?_, hI.2.1 _ _ _ _ _ _ hn (hC1.tr s.same) (hR1.tr w.same) (by rw [w.1 1 0, fl_sfn _ _ _ _ (by decide), fl_sfn _ _ _ _ (by decide)]; have := h2.2.1; omega) h8⟩
    · exact h2.stl (s.1 _ _) (w.1 _ _) (fun j => s.2.1 2 j (by omega)) (fun j => w.2.1 97 j (by omega))
    · obtain ⟨m1, m2, m3, m4⟩ := h3.up
      unfold RTm KY
      simp only [s.1, w.1]
      have b1 : fl (sf (sf τ 115 0 x1) 116 0 0) 115 0 = x1 := rfl
      have b2 : fl (sf (sf τ 115 0 x1) 116 0 0) 116 0 = 0 := rfl
      rw [a1, b1, b2]
      exact ⟨⟨by omega, c.1, by omega, by omega, by omega⟩, m2, m3, m4⟩
    · exact h4.stl (fun j => s.2.1 54 j (by omega)) (fun j => s.2.1 55 j (by omega)) (fun j => w.2.1 26 j (by omega)) (fun j => w.2.1 25 j (by omega))
    · exact h6.stl (s.1 _ _) (w.1 _ _) (w.1 _ _) (fun a j _ _ => s.2.1 a j (by omega)) (fun a j _ _ => w.2.1 a j (by omega))
    · exact h7.stl (s.1 _ _) (w.1 _ _) (fun a j _ _ => s.2.1 a j (by omega)) (fun a j _ _ => w.2.1 a j (by omega))
  · refine ⟨σ, τ, 0, ?_, ?_, h.up hI hn⟩
    · rw [Cs_jump, grd_t i1]
      by_cases d : x1 < 0
      · rw [if_pos d]
      · rw [if_neg d, if_neg (by omega)]
    · rw [r_jump, grd_t i1]
      by_cases d : x1 < 0
      · rw [if_pos d]
      · rw [if_neg d, if_neg (by omega)]
/-- a pattern comes to a track -/
theorem both_assign (hN : 64 ≤ N) (hI : Inn PR DR) {π : Sh} {σ τ : St} (h3 : RTm n σ τ) (h5 : RTk PR π σ τ) {t r p : Int} (t0 : 0 ≤ t) (t8 : t < 8) (hp : PR π σ τ r p) : ∃ σ' τ', Cs_assign N π σ t r = some σ' ∧ r_becomes N τ t p = some τ' ∧ (∀ f i, fl σ' f i = fl σ f i) ∧ (∀ f i, fl τ' f i = fl τ f i) ∧ (∀ a j, a < 51 ∨ 53 < a → el σ' a j = el σ a j) ∧ (∀ a j, a < 27 ∨ 28 < a → el τ' a j = el τ a j) ∧ RTk PR π σ' τ' := by
  obtain ⟨⟨m1, m2, m3, m4, m5⟩, -⟩ := h3
  have hi := pr_i32 hI hp
  have hC1 : SameC σ (se (se σ 52 t r) 53 t 1) := ((SameC.rf σ).se _ _ (by omega)).se _ _ (by omega)
  have k0 : Cs_assign N π σ t r = Option.bind (Cs_settle N π (se (se σ 52 t r) 53 t 1)) (fun r6 => some r6) := by
    rw [Cs_assign, grd_t (by exact ⟨t0, by omega⟩), grd_t hi.1]
    rfl
  have a1 : fl (se (se σ 52 t r) 53 t 1) 253 0 = fl σ 253 0 := rfl
  by_cases c : fl τ 116 0 = 0
  · have hm : Int.tmod (fl σ 253 0) 960 = 0 := by
      rw [m1, c, Int.add_zero, Int.mul_comm]
      exact tmod0 _
    obtain ⟨σ', e1, s⟩ := settle_lp (N := N) (π := π) 8 N (se (se σ 52 t r) 53 t 1) 0 (by omega) (by omega) (by omega) (fun u a b => by
      by_cases d : u = t
      · subst d
        have e3 : el (se (se σ 52 u r) 53 u 1) 53 u = 1 := el_ses _ _ _ _
        have e2 : el (se (se σ 52 u r) 53 u 1) 52 u = r := by rw [el_sen _ _ _ _ (by omega), el_ses]
        rw [e3, e2]
        exact ⟨Or.inr rfl, fun _ => hi.1⟩
      · have e3 : el (se (se σ 52 t r) 53 t 1) 53 u = el σ 53 u := by rw [el_sej _ _ _ d, el_sen _ _ _ _ (by omega)]
        rw [e3]
        rcases (h5 u a b).2 with q | q
        · exact ⟨Or.inl q.1, fun k => absurd q.1 k⟩
        · omega)
    have hR1 : SameR τ (se (se τ 28 t p) 27 t (-2)) := ((SameR.rf τ).se _ _ (by unfold inA; omega)).se _ _ (by unfold inA; omega)
    refine ⟨σ', se (se τ 28 t p) 27 t (-2), ?_, ?_, s.1, fun _ _ => rfl, fun a j ha => ?_, ?_, ?_⟩
    · rw [k0, Cs_settle, a1, grd_t (by exact ⟨by omega, by omega⟩), hm, grd_t (by decide), if_pos rfl, e1]
      rfl
    · rw [r_becomes, grd_t (by rw [c]; decide), if_pos c, grd_t (by exact ⟨t0, by omega⟩)]
    · rw [s.2.1 a j (by omega), el_sen _ _ _ _ (by omega), el_sen _ _ _ _ (by omega)]
    · intro a j ha
      rw [el_sen _ _ _ _ (by omega), el_sen _ _ _ _ (by omega)]
    · intro u a b
      obtain ⟨s1, s2, s3⟩ := s.2.2 u a b
      by_cases d : u = t
      · subst d
        have e3 : el (se (se σ 52 u r) 53 u 1) 53 u = 1 := el_ses _ _ _ _
        have e2 : el (se (se σ 52 u r) 53 u 1) 52 u = r := by rw [el_sen _ _ _ _ (by omega), el_ses]
        rw [e3, e2] at s2
        have e5 : el (se (se τ 28 u p) 27 u (-2)) 28 u = p := by rw [el_sen _ _ _ _ (by omega), el_ses]
        have e6 : el (se (se τ 28 u p) 27 u (-2)) 27 u = -2 := el_ses _ _ _ _
        rw [s2 (by decide), s3, e5, e6]
        exact ⟨hI.1 _ _ _ _ _ _ _ (hC1.tr s.same) hR1 hp, Or.inl ⟨rfl, rfl⟩⟩
      · have e3 : el (se (se σ 52 t r) 53 t 1) 53 u = el σ 53 u := by rw [el_sej _ _ _ d, el_sen _ _ _ _ (by omega)]
        have e4 : el (se (se σ 52 t r) 53 t 1) 51 u = el σ 51 u := by rw [el_sen _ _ _ _ (by omega), el_sen _ _ _ _ (by omega)]
        obtain ⟨q1, q2 | q2⟩ := h5 u a b
        · rw [e3, e4] at s1
          have e5 : el (se (se τ 28 t p) 27 t (-2)) 28 u = el τ 28 u := by rw [el_sen _ _ _ _ (by omega), el_sej _ _ _ d]
          have e6 : el (se (se τ 28 t p) 27 t (-2)) 27 u = el τ 27 u := by rw [el_sej _ _ _ d, el_sen _ _ _ _ (by omega)]
          rw [s1 q2.1, s3, e5, e6]
          exact ⟨hI.1 _ _ _ _ _ _ _ (hC1.tr s.same) hR1 q1, Or.inl ⟨rfl, q2.2⟩⟩
        · omega
  · have hm : ¬ Int.tmod (fl σ 253 0) 960 = 0 := by
      rw [Int.tmod_eq_emod_of_nonneg (by omega)]
      omega
    have hR1 : SameR τ (se τ 27 t p) := (SameR.rf τ).se _ _ (by unfold inA; omega)
    refine ⟨se (se σ 52 t r) 53 t 1, se τ 27 t p, ?_, ?_, fun _ _ => rfl, fun _ _ => rfl, fun a j ha => ?_, fun a j ha => ?_, fun u a b => ?_⟩
    · rw [k0, Cs_settle, a1, grd_t (by exact ⟨by omega, by omega⟩), grd_t (by rw [Int.tmod_eq_emod_of_nonneg (by omega)]; exact ⟨by omega, by omega⟩), if_neg hm]
      rfl
    · rw [r_becomes, grd_t (by exact ⟨by omega, by omega⟩), if_neg c, grd_t (by exact ⟨t0, by omega⟩)]
    · rw [el_sen _ _ _ _ (by omega), el_sen _ _ _ _ (by omega)]
    · rw [el_sen _ _ _ _ (by omega)]
    · have e0 : el (se (se σ 52 t r) 53 t 1) 51 u = el σ 51 u := by rw [el_sen _ _ _ _ (by omega), el_sen _ _ _ _ (by omega)]
      have e9 : el (se τ 27 t p) 28 u = el τ 28 u := by rw [el_sen _ _ _ _ (by omega)]
      have e8 : fl (se τ 27 t p) 116 0 = fl τ 116 0 := rfl
      rw [e0, e9, e8]
      refine ⟨hI.1 _ _ _ _ _ _ _ hC1 hR1 (h5 u a b).1, ?_⟩
      by_cases d : u = t
      · subst d
        have e5 : el (se (se σ 52 u r) 53 u 1) 53 u = 1 := el_ses _ _ _ _
        have e6 : el (se (se σ 52 u r) 53 u 1) 52 u = r := by rw [el_sen _ _ _ _ (by omega), el_ses]
        have e7 : el (se τ 27 u p) 27 u = p := el_ses _ _ _ _
        rw [e5, e6, e7]
        exact Or.inr ⟨rfl, hI.1 _ _ _ _ _ _ _ hC1 hR1 hp, by omega⟩
      · have e5 : el (se (se σ 52 t r) 53 t 1) 53 u = el σ 53 u := by rw [el_sej _ _ _ d, el_sen _ _ _ _ (by omega)]
        have e6 : el (se (se σ 52 t r) 53 t 1) 52 u = el σ 52 u := by rw [el_sen _ _ _ _ (by omega), el_sej _ _ _ d]
        have e7 : el (se τ 27 t p) 27 u = el τ 27 u := el_sej _ _ _ d
        rw [e5, e6, e7]
        rcases (h5 u a b).2 with q | ⟨q1, q2, q3⟩
        · exact Or.inl q
        · exact Or.inr ⟨q1, hI.1 _ _ _ _ _ _ _ hC1 hR1 q2, q3⟩
theorem st_hush (hN : 64 ≤ N) (hI : Inn PR DR) (hn : n < 512) : St_hush N (RO PR DR RW n) (RO PR DR RW (n + 1)) := by
  intro π σ τ x1 h i1
  obtain ⟨h1, h2, h3, h4, h5, h6, h7, h8⟩ := id h
  by_cases c : 0 ≤ x1 ∧ x1 < 8
  · obtain ⟨σ', τ', e1, e2, f1, f2, g1, g2, hk⟩ := both_assign hN hI h3 h5 c.1 c.2 (hI.2.2.2.1 π σ τ)
    have k1 : Cs_hush N π σ x1 = some (σ', 1) := by
      rw [Cs_hush, cs_track i1, if_pos c]
      show grd (i32 1) _ = _
      rw [grd_t (by decide), if_neg (by decide), e1]
      rfl
    have k2 : r_hush N τ x1 = some (τ', 1) := by
      rw [r_hush, grd_t i1, if_neg (by omega), if_pos c.2, e2]
      rfl
    have sC : SameC σ σ' := ⟨fun f i _ => f1 f i, fun a j ha => g1 a j (by omega)⟩
    have sR : SameR τ τ' := ⟨fun f _ => f2 f 0, fun a j ha => g2 a j (by unfold inA at ha; omega)⟩
    refine ⟨σ', τ', 1, k1, k2, km_Cs_hush h1 k1, ?_, ?_, ?_, hk, ?_, ?_, hI.2.1 _ _ _ _ _ _ hn sC sR (by rw [f2 1 0]; have := h2.2.1; omega) h8⟩
    · exact h2.stl (f1 _ _) (f2 _ _) (fun j => g1 2 j (by omega)) (fun j => g2 97 j (by omega))
    · have := h3.up
      unfold RTm KY at this ⊢
      simp only [f1, f2]
      exact this
    · exact h4.stl (fun j => g1 54 j (by omega)) (fun j => g1 55 j (by omega)) (fun j => g2 26 j (by omega)) (fun j => g2 25 j (by omega))
    · exact h6.stl (f1 _ _) (f2 _ _) (f2 _ _) (fun a j _ _ => g1 a j (by omega)) (fun a j _ _ => g2 a j (by omega))
    · exact h7.stl (f1 _ _) (f2 _ _) (fun a j _ _ => g1 a j (by omega)) (fun a j _ _ => g2 a j (by omega))
  · refine ⟨σ, τ, 0, ?_, ?_, h.up hI hn⟩
    · rw [Cs_hush, cs_track i1, if_neg c]
      show grd (i32 0) _ = _
      rw [grd_t (by decide), if_pos rfl]
    · rw [r_hush, grd_t i1]
      by_cases d : x1 < 0
      · rw [if_pos d]
      · rw [if_neg d, if_neg (by omega)]
end SJ
