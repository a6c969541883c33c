/-! bounds of a pattern: the class measures all kinds -/
section CM3
variable {N : Nat} {π : Sh} {τ : St} {r s A : Int}
theorem mx_d : ∀ (l : List Kid) (f : Int → Int) (a : Int), mxK (fun q => f q) a l = mxK f a l := fun _ _ _ => rfl
/-- after the depth -/
theorem c_meas_k {σ : St} {l : List Kid} {K a b c d : Int} (h : NP π σ τ r s A l) (hN : 3000 ≤ N) (hk : CKx π σ s K a b c d l) (hv : IV K a b c d l) {n : Nat} : MZ r σ (bds τ K a b c d l) (Pt_measure_2 N π (n + 1) σ r l.length) := by
  obtain ⟨p1, p2, p3, p4, p5, p6, p7, p8, p9⟩ := id h
  obtain ⟨x1, -, x2, x3, x4, x5, x6, -⟩ := id hk
  have gpos : ∀ k ∈ l, 1 ≤ gr τ k.1 := At.all (P := fun x => 1 ≤ gr τ x.1) (fun _ _ hq => hq.2.2.1.1.1) p8
  have kok : ∀ k ∈ l, KOK τ k := At.all (P := fun x => KOK τ x) (fun _ _ hq => hq.2.2) p8
  have lc1 := (lcK_dvd (τ := τ) l 1 (Int.le_refl _) gpos).2.1
  have ws := wS_b (l := l) (fun k hk => ⟨(kok k hk).2.2.1, (kok k hk).2.2.2⟩)
  obtain ⟨v, lv1, lv2⟩ := c_lcmAll h hN
  obtain ⟨cr1, cr2⟩ := c_crAll h hN
  obtain ⟨mx1, mx2, mx3⟩ := c_mxAll h hN
  have hl : i32 (l.length : Int) := ⟨by omega, by omega⟩
  have hlt : ¬ ((l.length : Int) < ln π A) := by omega
  have sumB : ∀ z : Int, fl σ 200 s = z → (z = 8 ∨ z = 16 ∨ z = 17) → bds τ K a b c d l = (lcK τ 1 l, crS τ l, mxK (rc τ) 0 l, wkS τ l + 1) → MZ r σ (bds τ K a b c d l) (Pt_measure_2 N π (n + 1) σ r l.length) := by
    intro z hz hz' hb
    rw [hb]
    have fin : MZ r σ (lcK τ 1 l, crS τ l, mxK (rc τ) 0 l, wkS τ l + 1) (Option.bind (Pt_lcmOfAll N π σ r) (fun r100 => Option.bind (Pt_crowdOfAll N π r100.1 r) (fun r104 => Option.bind (Pt_mostReach N π r104.1 r) (fun r108 => Option.bind (Pt_workOfAll N π r108.1 r) (fun r112 => Option.bind (Pt_bounds N π r112.1 r r100.2 r104.2 r108.2 (r112.2 + 1)) (fun r116 => some r116)))))) := by
      rw [lv1, Option.bind_some, cr1, Option.bind_some, mx2, Option.bind_some, cr2, Option.bind_some]
      exact MZ.of p1 (lv2.wk (by decide)) rfl rfl rfl
    rw [Pt_measure_2, grd_t p1, p3, grd_t p5, grd_t (by omega), grd_t hl, grd_t (by rw [p6]; exact hl), if_neg hlt, p2, grd_t p4, hz]
    rcases hz' with rfl | rfl | rfl <;> (rw [grd_t (by decide)]; exact fin)
  have maxB : ∀ z : Int, fl σ 200 s = z → (z = 5 ∨ z = 12 ∨ z = 13) → bds τ K a b c d l = (lcK τ 1 l, mxK (cw τ) 0 l, mxK (rc τ) 0 l, mxK (wk τ) 0 l + 1) → MZ r σ (bds τ K a b c d l) (Pt_measure_2 N π (n + 1) σ r l.length) := by
    intro z hz hz' hb
    rw [hb]
    have fin : MZ r σ (lcK τ 1 l, mxK (cw τ) 0 l, mxK (rc τ) 0 l, mxK (wk τ) 0 l + 1) (Option.bind (Pt_lcmOfAll N π σ r) (fun r100 => Option.bind (Pt_mostCrowd N π r100.1 r) (fun r104 => Option.bind (Pt_mostReach N π r104.1 r) (fun r108 => Option.bind (Pt_mostWork N π r108.1 r) (fun r112 => Option.bind (Pt_bounds N π r112.1 r r100.2 r104.2 r108.2 (r112.2 + 1)) (fun r116 => some r116)))))) := by
      rw [lv1, Option.bind_some, mx1, Option.bind_some, mx2, Option.bind_some, mx3, Option.bind_some]
      exact MZ.of p1 (lv2.wk (by decide)) rfl rfl rfl
    rw [Pt_measure_2, grd_t p1, p3, grd_t p5, grd_t (by omega), grd_t hl, grd_t (by rw [p6]; exact hl), if_neg hlt, p2, grd_t p4, hz]
    rcases hz' with rfl | rfl | rfl <;> (rw [grd_t (by decide)]; exact fin)
  have oneB : ∀ z : Int, fl σ 200 s = z → (z = 7 ∨ z = 9 ∨ z = 10 ∨ z = 11 ∨ z = 14 ∨ z = 15 ∨ z = 18 ∨ z = 22 ∨ z = 23 ∨ z = 24) → (∃ q, l = [(q, 1, 1)]) → 8 ≤ K → MZ r σ (bds τ K a b c d l) (Pt_measure_2 N π (n + 1) σ r l.length) := by
    intro z hz hz' hq h8
    obtain ⟨q, rfl⟩ := hq
    obtain ⟨σ', y1, y2⟩ := c_one h hN hk hv h8
    have fin : MZ r σ (bds τ K a b c d [(q, 1, 1)]) (grd (ina π A 0) (Option.bind (Pt_measureOfOne N π σ r (el σ A 0)) (fun r95 => some r95))) := by
      rw [grd_t (by exact ⟨by omega, by rw [p6]; simp only [List.length_cons, List.length_nil]; omega, by decide⟩), y1, Option.bind_some]
      exact ⟨σ', rfl, y2⟩
    rw [Pt_measure_2, grd_t p1, p3, grd_t p5, grd_t (by omega), grd_t hl, grd_t (by rw [p6]; exact hl), if_neg hlt, p2, grd_t p4, hz]
    rcases hz' with rfl | rfl | rfl | rfl | rfl | rfl | rfl | rfl | rfl | rfl <;> (rw [grd_t (by decide)]; exact fin)
  have twoB : ∀ z : Int, fl σ 200 s = z → (z = 19 ∨ z = 20 ∨ z = 21) → (∃ q q', l = [(q, 1, 1), (q', 1, 1)]) → bds τ K a b c d l = (if z = 20 then meB τ (q1 l) (q0 l) else meB τ (q0 l) (q1 l)) → MZ r σ (bds τ K a b c d l) (Pt_measure_2 N π (n + 1) σ r l.length) := by
    intro z hz hz' hq hb
    obtain ⟨q, q', rfl⟩ := hq
    rw [hb]
    obtain ⟨⟨a1, ⟨a2, a3, a4, a5, a6⟩, ⟨⟨ag1, ag2⟩, -⟩, -⟩, ⟨b1, ⟨b2, b3, b4, b5, b6⟩, ⟨⟨bg1, bg2⟩, -⟩, -⟩, -⟩ := p8
    simp only at a2 a3 a4 a5 ag1 ag2 b2 b3 b4 b5 bg1 bg2
    rw [Int.zero_add] at b1 b2 b3 b4 b5
    have mm : ∀ {x y : Int} {m o : Int}, ob π x 5 → ob π y 5 → fl σ 102 x = gr τ m → fl σ 103 x = cw τ m → fl σ 104 x = rc τ m → fl σ 105 x = wk τ m → fl σ 104 y = rc τ o → fl σ 105 y = wk τ o → gr τ m ≤ 1000000 → MZ r σ (meB τ m o) (Option.bind (Pt_measureMeeting N π σ r x y) (fun r243 => some r243)) := by
      intro x y m o ox oy h1 h2 h3 h4 h5 h6 h7
      obtain ⟨σ', y1, y2, y3, y4, y5, y6, y7⟩ := c_bounds (N := N) (π := π) (σ := σ) (r := r) (g := gr τ m) (c := cw τ m) (w := rc τ m) (x := wk τ m + cw τ m * (rc τ o + 1) * wk τ o + 1) p1
      rw [Pt_measureMeeting, grd_t ox, grd_t oy, h1, h2, h3, h4, h5, h6, y1, Option.bind_some, grd_t p1, Option.bind_some]
      exact ⟨σ', rfl, y2, by rw [y3]; exact okG.ex (show gr τ m ≤ _ by omega), y4, y5, y6, y7⟩
    rw [Pt_measure_2, grd_t p1, p3, grd_t p5, grd_t (by omega), grd_t hl, grd_t (by rw [p6]; exact hl), if_neg hlt, p2, grd_t p4, hz]
    have i0 : ina π A 0 := ⟨by omega, by rw [p6]; simp only [List.length_cons, List.length_nil]; omega, by decide⟩
    have i1 : ina π A 1 := ⟨by omega, by rw [p6]; simp only [List.length_cons, List.length_nil]; omega, by decide⟩
    rcases hz' with rfl | rfl | rfl
    · rw [grd_t (by decide)]
      show MZ r σ (meB τ q q') (grd (ina π A 0) (grd (ina π A 1) (Option.bind (Pt_measureMeeting N π σ r (el σ A 0) (el σ A 1)) (fun r243 => some r243))))
      rw [grd_t i0, grd_t i1]
      exact mm a1 b1 a2 a3 a4 a5 b4 b5 ag2
    · rw [grd_t (by decide)]
      show MZ r σ (meB τ q' q) (grd (ina π A 1) (grd (ina π A 0) (Option.bind (Pt_measureMeeting N π σ r (el σ A 1) (el σ A 0)) (fun r243 => some r243))))
      rw [grd_t i1, grd_t i0]
      exact mm b1 a1 b2 b3 b4 b5 a4 a5 bg2
    · rw [grd_t (by decide)]
      show MZ r σ (meB τ q q') (grd (ina π A 0) (grd (ina π A 1) (Option.bind (Pt_measureMeeting N π σ r (el σ A 0) (el σ A 1)) (fun r243 => some r243))))
      rw [grd_t i0, grd_t i1]
      exact mm a1 b1 a2 a3 a4 a5 b4 b5 ag2
  have leafB : ∀ (z e : Int), fl σ 200 s = z → ((z = 1 ∧ e = 1) ∨ (z = 2 ∧ e = 1) ∨ (z = 3 ∧ e = 0)) → bds τ K a b c d l = (1, e, 1, 1) → MZ r σ (bds τ K a b c d l) (Pt_measure_2 N π (n + 1) σ r l.length) := by
    intro z e hz hz' hb
    rw [hb]
    have fin : MZ r σ (1, e, 1, 1) (Option.bind (Pt_bounds N π σ r 1 e 1 1) (fun r10 => some r10)) := MZ.of p1 (okG.ex (by decide)) rfl rfl rfl
    rw [Pt_measure_2, grd_t p1, p3, grd_t p5, grd_t (by omega), grd_t hl, grd_t (by rw [p6]; exact hl), if_neg hlt, p2, grd_t p4, hz]
    rcases hz' with ⟨rfl, rfl⟩ | ⟨rfl, rfl⟩ | ⟨rfl, rfl⟩ <;> (rw [grd_t (by decide)]; exact fin)
  unfold IV at hv
  rcases id hv with ⟨rfl, -⟩ | ⟨rfl, -⟩ | ⟨rfl, -⟩ | ⟨rfl, wl⟩ | ⟨rfl, -⟩ | ⟨rfl, -⟩ | ⟨rfl, wl, v1, v2⟩ | ⟨rfl, hq, -⟩ | ⟨rfl, hq, -⟩ | ⟨hK, hq, -⟩ | ⟨rfl, hq, -⟩ | ⟨hK, hq, -⟩ | ⟨rfl, hq, -⟩ | ⟨rfl, hq, -⟩ | ⟨hK, hq, -⟩ | ⟨rfl, hq, -⟩ | ⟨rfl, hq, -⟩ | ⟨hK, hq, -⟩ | ⟨hK, hq⟩ | ⟨rfl, hq, -⟩
  · exact leafB 1 1 x1 (Or.inl ⟨rfl, rfl⟩) rfl
  · exact leafB 2 1 x1 (Or.inr (Or.inl ⟨rfl, rfl⟩)) rfl
  · exact leafB 3 0 x1 (Or.inr (Or.inr ⟨rfl, rfl⟩)) rfl
  · -- a sequence
    have e2 := x2 (by decide) (by decide) (by decide)
    rw [if_neg (by decide), if_pos (by decide)] at e2
    have lw : 1 ≤ l.length := by
      cases l with
      | nil => exact absurd rfl wl.1
      | cons _ _ => simp
    have hz : fl σ 200 s = 4 := x1
    rw [Pt_measure_2, grd_t p1, p3, grd_t p5, grd_t (by omega), grd_t hl, grd_t (by rw [p6]; exact hl), if_neg hlt, p2, grd_t p4, hz, grd_t (by decide)]
    show MZ r σ (wS l * lcK τ 1 l, crS τ l, mxK (rc τ) 0 l, wkS τ l + 1) (grd (i32 (fl σ 202 s)) (Option.bind (Pt_lcmOfAll N π σ r) (fun r100 => Option.bind (Pt_crowdOfAll N π r100.1 r) (fun r104 => Option.bind (Pt_mostReach N π r104.1 r) (fun r108 => Option.bind (Pt_workOfAll N π r108.1 r) (fun r112 => Option.bind (Pt_bounds N π r112.1 r (fl σ 202 s * r100.2) r104.2 r108.2 (r112.2 + 1)) (fun r116 => some r116)))))))
    rw [e2, grd_t (by exact ⟨by omega, by omega⟩), lv1, Option.bind_some, cr1, Option.bind_some, mx2, Option.bind_some, cr2, Option.bind_some]
    exact MZ.of p1 (lv2.mul ⟨by omega, by omega⟩ lc1) rfl rfl rfl
  · exact sumB 8 x1 (Or.inl rfl) rfl
  · exact maxB 5 x1 (Or.inl rfl) rfl
  · -- a polymeter
    have e3 := x3 (by decide)
    rw [if_pos rfl] at e3
    have hz : fl σ 200 s = 6 := x1
    rw [Pt_measure_2, grd_t p1, p3, grd_t p5, grd_t (by omega), grd_t hl, grd_t (by rw [p6]; exact hl), if_neg hlt, p2, grd_t p4, hz, grd_t (by decide)]
    show MZ r σ (a * lcK τ 1 l, a * mxK (cw τ) 0 l, mxK (rc τ) 0 l, a * mxK (wk τ) 0 l + 1) (grd (i32 (fl σ 203 s)) (Option.bind (Pt_lcmOfAll N π σ r) (fun r69 => grd (ob π (fl r69.1 100 r) 10) (grd (i32 (fl r69.1 203 (fl r69.1 100 r))) (Option.bind (Pt_mostCrowd N π r69.1 r) (fun r75 => Option.bind (Pt_mostReach N π r75.1 r) (fun r79 => grd (ob π (fl r79.1 100 r) 10) (grd (i32 (fl r79.1 203 (fl r79.1 100 r))) (Option.bind (Pt_mostWork N π r79.1 r) (fun r85 => Option.bind (Pt_bounds N π r85.1 r (fl σ 203 s * r69.2) (fl r69.1 203 (fl r69.1 100 r) * r75.2) r79.2 (fl r79.1 203 (fl r79.1 100 r) * r85.2 + 1)) (fun r89 => some r89)))))))))))
    rw [e3, grd_t (by exact ⟨by omega, by omega⟩), lv1, Option.bind_some]
    simp only
    rw [p2, grd_t p4, e3, grd_t (by exact ⟨by omega, by omega⟩), mx1, Option.bind_some, mx2, Option.bind_some]
    simp only
    rw [p2, grd_t p4, e3, grd_t (by exact ⟨by omega, by omega⟩), mx3, Option.bind_some]
    exact MZ.of p1 (lv2.mul ⟨by omega, by omega⟩ lc1) rfl rfl rfl
  · exact oneB 7 x1 (by omega) hq (by decide)
  · exact oneB 9 x1 (by omega) hq (by decide)
  · rcases hK with rfl | rfl
    · exact oneB 10 x1 (by omega) hq (by decide)
    · exact oneB 10 x1 (by omega) hq (by decide)
  · exact oneB 11 x1 (by omega) hq (by decide)
  · rcases hK with rfl | rfl
    · exact maxB 12 x1 (by omega) rfl
    · exact maxB 13 x1 (by omega) rfl
  · exact sumB 16 x1 (by omega) rfl
  · exact sumB 17 x1 (by omega) rfl
  · rcases hK with rfl | rfl
    · exact oneB 14 x1 (by omega) hq (by decide)
    · exact oneB 15 x1 (by omega) hq (by decide)
  · exact oneB 18 x1 (by omega) hq (by decide)
  · exact oneB 24 x1 (by omega) hq (by decide)
  · rcases hK with rfl | rfl
    · exact oneB 22 x1 (by omega) hq (by decide)
    · exact oneB 23 x1 (by omega) hq (by decide)
  · rcases hK with rfl | rfl
    · exact twoB 19 x1 (by omega) hq rfl
    · exact twoB 20 x1 (by omega) hq rfl
  · exact twoB 21 x1 (by omega) hq rfl
theorem CKx.mf {σ σ' : St} {K a b c d : Int} {l : List Kid} (m : MF r σ σ') (h : CKx π σ s K a b c d l) : CKx π σ' s K a b c d l := by
  unfold CKx WAx at h ⊢
  simp only [m.2, m.1 200 s (by omega), m.1 202 s (by omega), m.1 203 s (by omega), m.1 204 s (by omega), m.1 205 s (by omega), m.1 207 s (by omega), m.1 211 s (by omega), m.1 212 s (by omega), m.1 213 s (by omega)]
  exact h
theorem MF.tr {σ σ1 σ2 : St} (h : MF r σ σ1) (k : MF r σ1 σ2) : MF r σ σ2 := ⟨fun f i a => (k.1 f i a).trans (h.1 f i a), fun a j => (k.2 a j).trans (h.2 a j)⟩
/-- the depth, then the rest -/
theorem c_meas_lp {l0 : List Kid} {K a b c d : Int} (hN : 3000 ≤ N) (hv : IV K a b c d l0) : ∀ (l : List Kid) (n : Nat) (i e : Int) (σ : St), l.length < n → NP π σ τ r s A l0 → CKx π σ s K a b c d l0 → (∀ i : Int, 0 ≤ i → i < l0.length → el σ A i ≠ r) → At (KQ π σ τ A) i l → 0 ≤ i → i + l.length = l0.length → fl σ 106 r = e + 1 → 0 ≤ e → e ≤ 60 → ∃ σ', Pt_measure_2 N π n σ r i = some σ' ∧ MF r σ σ' ∧ okG 1000000000000000000 (fl σ' 102 r) (bds τ K a b c d l0).1 ∧ fl σ' 103 r = (bds τ K a b c d l0).2.1 ∧ fl σ' 104 r = (bds τ K a b c d l0).2.2.1 ∧ fl σ' 105 r = (bds τ K a b c d l0).2.2.2 ∧ fl σ' 106 r = mxK (fun q => el τ 59 q) e l + 1
  | [], n + 1, i, e, σ, _, h, hk, hne, _, i0, h1, h106, e0, e1 => by
    simp only [List.length_nil] at h1
    have ei : i = l0.length := by omega
    subst ei
    obtain ⟨σ', y1, y2, y3, y4, y5, y6, y7⟩ := c_meas_k (n := n) h hN hk hv
    exact ⟨σ', y1, y2, y3, y4, y5, y6, by rw [y7, h106]; rfl⟩
  | k :: l, n + 1, i, e, σ, hn, h, hk, hne, hA, i0, h1, h106, e0, e1 => by
    obtain ⟨p1, p2, p3, p4, p5, p6, p7, -⟩ := id h
    obtain ⟨⟨k1, ⟨k2, k3, k4, k5, k6⟩, -, ⟨k7, k8⟩, -⟩, kl'⟩ := hA
    simp only [List.length_cons] at h1 hn
    have mf : MF r σ (sf σ 106 r (max (e + 1) (el τ 59 k.1 + 1))) := ⟨fun f j hf => by rw [fl_sf, if_neg (by omega)], fun _ _ => rfl⟩
    obtain ⟨σ', y1, y2, y3⟩ := c_meas_lp hN hv l n (i + 1) (max e (el τ 59 k.1)) _ (by omega) (h.mf hne mf) (hk.mf mf) hne (kl'.mono (fun j x j0 j1 _ hx => by
      have := hne j (by omega) (by omega)
      unfold KQ at hx ⊢
      rw [mf.2, mf.1 102 _ (by omega), mf.1 103 _ (by omega), mf.1 104 _ (by omega), mf.1 105 _ (by omega), mf.1 106 _ (by omega)]
      exact hx)) (by omega) (by omega) (by rw [fl_sfs]; omega) (by omega) (by omega)
    refine ⟨σ', ?_, mf.tr y2, y3⟩
    rw [Pt_measure_2, grd_t p1, p3, grd_t p5, grd_t (by omega), grd_t (by exact ⟨by omega, by omega⟩), grd_t (by exact ⟨by omega, by omega⟩), if_pos (by omega), grd_t (by exact ⟨i0, by omega, by omega⟩), grd_t k1, h106, grd_t (by exact ⟨by omega, by omega⟩), k6, grd_t (by exact ⟨by omega, by omega⟩)]
    exact y1
end CM3
