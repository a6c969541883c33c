/-! the small calls -/
section SM
variable {PR : PRt} {DR : DRt} {RW : Int → Int → Int → Prop} {N n : Nat}
theorem RO.mk {π : Sh} {σ τ σ' τ' : St} (hI : Inn PR DR) (hn : n < 512) (h : RO PR DR RW n π σ τ) (hCl : Cl π σ') (hC : SameC σ σ') (hR : SameR τ τ') (h1 : RTp σ' τ') (h2 : RTm (n + 1) σ' τ') (h3 : RMs σ' τ') (h4 : ∀ t, 0 ≤ t → t < 8 → el σ' 51 t = el σ 51 t ∧ el σ' 52 t = el σ 52 t ∧ el σ' 53 t = el σ 53 t ∧ el τ' 27 t = el τ 27 t ∧ el τ' 28 t = el τ 28 t) (h5 : fl τ' 116 0 = fl τ 116 0) (h6 : RKa RW σ' τ') (h7 : RKh RW σ' τ') (hz : fl τ' 1 0 ≤ fl τ 1 0 + 20) : RO PR DR RW (n + 1) π σ' τ' :=
  ⟨hCl, h1, h2, h3, h.2.2.2.2.1.same hI hC hR h4 h5, h6, h7, hI.2.1 _ _ _ _ _ _ hn hC hR ⟨h1.2.1, hz⟩ h.2.2.2.2.2.2.2⟩
theorem st_seed (hI : Inn PR DR) (hn : n < 512) : St_seed N (RO PR DR RW n) (RO PR DR RW (n + 1)) := by
  intro π σ τ x1 h i1
  have e1 : Cs_seed N π σ x1 = some (sf σ 161 9 x1) := rfl
  refine ⟨_, _, e1, rfl, ?_⟩
  obtain ⟨h1, h2, h3, h4, h5, h6, h7, h8⟩ := id h
  refine h.mk hI hn (km_Cs_seed h1 e1) ((SameC.rf σ).sf _ _ (nF (by omega))) ((SameR.rf τ).sf _ _ (by unfold inR; omega)) h2 ?_ h4 (fun _ _ _ => ⟨rfl, rfl, rfl, rfl, rfl⟩) rfl h6 h7 (by rw [fl_sfn _ _ _ _ (by decide)]; omega)
  obtain ⟨m1, m2, m3, m4⟩ := h3.up
  exact ⟨m1, m2, ⟨rfl, i1, m3.2.2⟩, m4⟩
theorem st_end (hI : Inn PR DR) (hn : n < 512) : St_end N (RO PR DR RW n) (RO PR DR RW (n + 1)) := by
  intro π σ τ x1 h i1
  obtain ⟨h1, h2, h3, h4, h5, h6, h7, h8⟩ := id h
  obtain ⟨t1, t2, t3, t4⟩ := id h2
  by_cases c1 : x1 < 0
  · refine ⟨σ, τ, 0, ?_, ?_, h.up hI hn⟩
    · rw [Cs_end, grd_t i1, if_pos c1]
    · rw [r_end, grd_t i1, if_pos c1]
  by_cases c2 : fl τ 1 0 < x1
  · refine ⟨σ, τ, 0, ?_, ?_, h.up hI hn⟩
    · rw [Cs_end, grd_t i1, if_neg c1, grd_t (by rw [t1]; exact ⟨by omega, by omega⟩), if_pos (by rw [t1]; exact c2)]
    · rw [r_end, grd_t i1, if_neg c1, grd_t (by exact ⟨by omega, by omega⟩), if_pos c2]
  have e1 : Cs_end N π σ x1 = some (sf σ 181 1 x1, 1) := by
    rw [Cs_end, grd_t i1, if_neg c1, grd_t (by rw [t1]; exact ⟨by omega, by omega⟩), if_neg (by rw [t1]; exact c2)]
  refine ⟨_, sf τ 1 0 x1, _, e1, ?_, ?_⟩
  · rw [r_end, grd_t i1, if_neg c1, grd_t (by exact ⟨by omega, by omega⟩), if_neg c2]
  · refine h.mk hI hn (km_Cs_end h1 e1) ((SameC.rf σ).sf _ _ (nF (by omega))) ((SameR.rf τ).sf _ _ (by unfold inR; omega)) ?_ h3.up h4 (fun _ _ _ => ⟨rfl, rfl, rfl, rfl, rfl⟩) rfl h6 h7 (by rw [fl_sfs]; omega)
    have ec : fl (sf σ 181 1 x1) 181 1 = x1 := fl_sfs _ _ _ _
    have er : fl (sf τ 1 0 x1) 1 0 = x1 := fl_sfs _ _ _ _
    refine ⟨ec.trans er.symm, by omega, by omega, fun j a b => t4 j a ?_⟩
    rw [er] at b
    omega
theorem st_told (hI : Inn PR DR) (hn : n < 512) : St_told N (RO PR DR RW n) (RO PR DR RW (n + 1)) := by
  intro π σ τ x1 h i1
  obtain ⟨m1, m2, m3, m4⟩ := h.2.2.1
  have hu := h.up hI hn
  rcases m4 with ⟨a, b, c, d⟩ | ⟨a, b, c, d, -, -, -⟩
  · refine ⟨σ, τ, -1, ?_, ?_, hu⟩
    · rw [Cs_told, a, grd_t z_i32, if_pos rfl]
    · rw [r_told, grd_t i1, b, c, d]
      split <;> try rfl
      split <;> try rfl
      split <;> rfl
  · have k1 : Cs_told N π σ x1 = some (σ, if x1 = 0 then fl τ 118 0 else if x1 = 1 then fl τ 119 0 else if x1 = 2 then fl τ 120 0 else -1) := by
      rw [Cs_told, a, grd_t (by decide), if_neg (by decide), grd_t i1, b, c, d]
      split <;> try rfl
      split <;> try rfl
      split <;> rfl
    refine ⟨σ, τ, _, k1, ?_, hu⟩
    rw [r_told, grd_t i1]
    split <;> try rfl
    split <;> try rfl
    split <;> rfl
theorem cs_track {x : Int} (i1 : i32 x) : Cs_isTrack N x = some (if 0 ≤ x ∧ x < 8 then 1 else 0) := by
  rw [Cs_isTrack, grd_t i1]
  by_cases a : x < 0
  · rw [if_pos a, if_neg (by omega)]
  · by_cases b : x < 8
    · rw [if_neg a, if_pos b, if_pos ⟨by omega, b⟩]
    · rw [if_neg a, if_neg b, if_neg (by omega)]
theorem rr_track {τ : St} {x : Int} (i1 : i32 x) : r_isTrack N τ x = some (τ, if 0 ≤ x ∧ x < 8 then 1 else 0) := by
  rw [r_isTrack, grd_t i1]
  by_cases a : x < 0
  · rw [if_pos a, if_neg (by omega)]
  · by_cases b : x < 8
    · rw [if_neg a, if_pos b, if_pos ⟨by omega, b⟩]
    · rw [if_neg a, if_neg b, if_neg (by omega)]
theorem st_mute (hI : Inn PR DR) (hn : n < 512) : St_mute N (RO PR DR RW n) (RO PR DR RW (n + 1)) := by
  intro π σ τ x1 x2 h i1 i2
  obtain ⟨h1, h2, h3, h4, h5, h6, h7, h8⟩ := id h
  by_cases c : 0 ≤ x1 ∧ x1 < 8
  · obtain ⟨⟨a1, a2⟩, a3, a4⟩ := h4 x1 c.1 c.2
    have e1 : Cs_mute N π σ x1 x2 = some (se σ 54 x1 x2, el τ 26 x1) := by
      rw [Cs_mute, cs_track i1, if_pos c]
      show grd (i32 1) _ = _
      rw [grd_t (by decide), if_neg (by decide), grd_t (by exact c)]
      show grd (isZ x2) _ = _
      rw [grd_t i2, a1, grd_t a2]
    refine ⟨_, se τ 26 x1 x2, _, e1, ?_, ?_⟩
    · rw [r_mute, rr_track i1, if_pos c]
      show grd (i32 1) _ = _
      rw [grd_t (by decide)]
      show (if (1 : Int) = 0 then _ else _) = _
      rw [if_neg (by decide), grd_t (by exact c)]
      show grd (isZ x2) _ = _
      rw [grd_t i2, grd_t a2]
    · refine h.mk hI hn (km_Cs_mute h1 e1) ((SameC.rf σ).se _ _ (by omega)) ((SameR.rf τ).se _ _ (by unfold inA; omega)) ?_ h3.up ?_ ?_ rfl ?_ ?_ (by rw [fl_se]; omega)
      · obtain ⟨t1, t2, t3, t4⟩ := h2
        exact ⟨t1, t2, t3, t4⟩
      · intro t b1 b2
        obtain ⟨⟨d1, d2⟩, d3, d4⟩ := h4 t b1 b2
        refine ⟨?_, ?_⟩
        · rw [el_se, el_se]
          by_cases e : t = x1
          · rw [if_pos ⟨rfl, e⟩, if_pos ⟨rfl, e⟩]
            exact ⟨rfl, i2⟩
          · rw [if_neg (fun k => e k.2), if_neg (fun k => e k.2)]
            exact ⟨d1, d2⟩
        · exact ⟨d3, d4⟩
      · exact fun t _ _ => ⟨rfl, rfl, rfl, rfl, rfl⟩
      · exact h6
      · exact h7
  · refine ⟨σ, τ, 0, ?_, ?_, h.up hI hn⟩
    · rw [Cs_mute, cs_track i1, if_neg c]
      show grd (i32 0) _ = _
      rw [grd_t (by decide), if_pos rfl]
    · rw [r_mute, rr_track i1, if_neg c]
      show grd (i32 0) _ = _
      rw [grd_t (by decide)]
      show (if (0 : Int) = 0 then _ else _) = _
      rw [if_pos rfl]
theorem st_solo (hI : Inn PR DR) (hn : n < 512) : St_solo N (RO PR DR RW n) (RO PR DR RW (n + 1)) := by
  intro π σ τ x1 x2 h i1 i2
  obtain ⟨h1, h2, h3, h4, h5, h6, h7, h8⟩ := id h
  by_cases c : 0 ≤ x1 ∧ x1 < 8
  · obtain ⟨⟨a3, a4⟩, a1, a2⟩ := h4 x1 c.1 c.2
    have e1 : Cs_solo N π σ x1 x2 = some (se σ 55 x1 x2, el τ 25 x1) := by
      rw [Cs_solo, cs_track i1, if_pos c]
      show grd (i32 1) _ = _
      rw [grd_t (by decide), if_neg (by decide), grd_t (by exact c)]
      show grd (isZ x2) _ = _
      rw [grd_t i2, a1, grd_t a2]
    refine ⟨_, se τ 25 x1 x2, _, e1, ?_, ?_⟩
    · rw [r_solo, rr_track i1, if_pos c]
      show grd (i32 1) _ = _
      rw [grd_t (by decide)]
      show (if (1 : Int) = 0 then _ else _) = _
      rw [if_neg (by decide), grd_t (by exact c)]
      show grd (isZ x2) _ = _
      rw [grd_t i2, grd_t a2]
    · refine h.mk hI hn (km_Cs_solo h1 e1) ((SameC.rf σ).se _ _ (by omega)) ((SameR.rf τ).se _ _ (by unfold inA; omega)) ?_ h3.up ?_ ?_ rfl ?_ ?_ (by rw [fl_se]; omega)
      · obtain ⟨t1, t2, t3, t4⟩ := h2
        exact ⟨t1, t2, t3, t4⟩
      · intro t b1 b2
        obtain ⟨⟨d1, d2⟩, d3, d4⟩ := h4 t b1 b2
        refine ⟨⟨d1, d2⟩, ?_⟩
        rw [el_se, el_se]
        by_cases e : t = x1
        · rw [if_pos ⟨rfl, e⟩, if_pos ⟨rfl, e⟩]
          exact ⟨rfl, i2⟩
        · rw [if_neg (fun k => e k.2), if_neg (fun k => e k.2)]
          exact ⟨d3, d4⟩
      · exact fun t _ _ => ⟨rfl, rfl, rfl, rfl, rfl⟩
      · exact h6
      · exact h7
  · refine ⟨σ, τ, 0, ?_, ?_, h.up hI hn⟩
    · rw [Cs_solo, cs_track i1, if_neg c]
      show grd (i32 0) _ = _
      rw [grd_t (by decide), if_pos rfl]
    · rw [r_solo, rr_track i1, if_neg c]
      show grd (i32 0) _ = _
      rw [grd_t (by decide)]
      show (if (0 : Int) = 0 then _ else _) = _
      rw [if_pos rfl]
end SM
