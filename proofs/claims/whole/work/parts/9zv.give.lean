/-! a weighted part is given -/
def WTs (π : Sh) (σ : St) (n0 s : Int) (ops : List Kid) (lw : Int) : Prop := (ops = [] ∧ lw = 0 ∧ fl σ 211 s = -1 ∧ fl σ 212 s = -1 ∧ fl σ 213 s = -1) ∨ (ops ≠ [] ∧ (ob π (fl σ 211 s) 22 ∧ n0 ≤ fl σ 211 s ∧ ln π (fl σ 211 s) = lw) ∧ (ob π (fl σ 212 s) 22 ∧ n0 ≤ fl σ 212 s ∧ ln π (fl σ 212 s) = lw) ∧ (ob π (fl σ 213 s) 22 ∧ n0 ≤ fl σ 213 s ∧ ln π (fl σ 213 s) = lw) ∧ (fl σ 211 s ≠ fl σ 212 s ∧ fl σ 211 s ≠ fl σ 213 s ∧ fl σ 212 s ≠ fl σ 213 s ∧ fl σ 210 s ≠ fl σ 211 s ∧ fl σ 210 s ≠ fl σ 212 s ∧ fl σ 210 s ≠ fl σ 213 s) ∧ ops.length ≤ lw ∧ At (fun i (k : Kid) => el σ (fl σ 211 s) i = k.2.1 ∧ el σ (fl σ 212 s) i = k.2.2) 0 ops ∧ ∀ i : Int, 0 ≤ i → i < ops.length → el σ (fl σ 213 s) i = wS (ops.take (i.toNat + 1)))
theorem wS_app : ∀ (a b : List Kid), wS (a ++ b) = wS a + wS b
  | [], b => by show wS b = 0 + wS b; omega
  | k :: a, b => by show k.2.1 * k.2.2 + wS (a ++ b) = k.2.1 * k.2.2 + wS a + wS b; rw [wS_app a b]; omega
section GW
variable {N : Nat}
/-- the three rows are there, and long enough: the last cells are written -/
theorem c_gw123 {π : Sh} {σ : St} {n0 s o x y : Int} {ops : List Kid} {W R E : Int} (h1 : ob π s 10 ∧ n0 ≤ s) (h209 : fl σ 209 s = ops.length + 1) (h202 : fl σ 202 s = wS ops) (hW : fl σ 211 s = W ∧ ob π W 22 ∧ n0 ≤ W ∧ ops.length < ln π W ∧ ln π W < 1000000) (hR : fl σ 212 s = R ∧ ob π R 22 ∧ n0 ≤ R ∧ ln π R = ln π W) (hE : fl σ 213 s = E ∧ ob π E 22 ∧ n0 ≤ E ∧ ln π E = ln π W) (hd : W ≠ R ∧ W ≠ E ∧ R ≠ E) (hA : At (fun i (k : Kid) => el σ W i = k.2.1 ∧ el σ R i = k.2.2) 0 ops) (hB : ∀ i : Int, 0 ≤ i → i < ops.length → el σ E i = wS (ops.take (i.toNat + 1))) : ∃ σ', Sp_giveWeighted_123 N π σ s x y = some (π, σ') ∧ FRn n0 π σ π σ' ∧ (∀ f i, ¬ (i = s ∧ f = 202) → fl σ' f i = fl σ f i) ∧ fl σ' 202 s = wS (ops ++ [(o, x, y)]) ∧ (∀ a j, a ≠ W → a ≠ R → a ≠ E → el σ' a j = el σ a j) ∧ At (fun i (k : Kid) => el σ' W i = k.2.1 ∧ el σ' R i = k.2.2) 0 (ops ++ [(o, x, y)]) ∧ ∀ i : Int, 0 ≤ i → i < (ops ++ [(o, x, y)]).length → el σ' E i = wS ((ops ++ [(o, x, y)]).take (i.toNat + 1)) := by
  obtain ⟨σ', hσ'⟩ : ∃ σ', σ' = se (se (se (sf σ 202 s (wS ops + x * y)) W ops.length x) R ops.length y) E ops.length (wS ops + x * y) := ⟨_, rfl⟩
  have l0 : ((ops ++ [(o, x, y)]).length : Int) = ops.length + 1 := by rw [List.length_append]; simp
  have eW : ∀ i, el σ' W i = if i = ops.length then x else el σ W i := fun i => by
    rw [hσ', el_sen _ _ _ _ hd.2.1, el_sen _ _ _ _ hd.1, el_se, el_sf]
    by_cases c : i = ops.length
    · rw [if_pos ⟨rfl, c⟩, if_pos c]
    · rw [if_neg (fun h => c h.2), if_neg c]
  have eR : ∀ i, el σ' R i = if i = ops.length then y else el σ R i := fun i => by
    rw [hσ', el_sen _ _ _ _ hd.2.2, el_se]
    by_cases c : i = ops.length
    · rw [if_pos ⟨rfl, c⟩, if_pos c]
    · rw [if_neg (fun h => c h.2), if_neg c, el_sen _ _ _ _ (Ne.symm hd.1), el_sf]
  have eE : ∀ i, el σ' E i = if i = ops.length then wS ops + x * y else el σ E i := fun i => by
    rw [hσ', el_se]
    by_cases c : i = ops.length
    · rw [if_pos ⟨rfl, c⟩, if_pos c]
    · rw [if_neg (fun h => c h.2), if_neg c, el_sen _ _ _ _ (Ne.symm hd.2.2), el_sen _ _ _ _ (Ne.symm hd.2.1), el_sf]
  have wa : wS (ops ++ [(o, x, y)]) = wS ops + x * y := by rw [wS_app]; show wS ops + (x * y + 0) = _; omega
  refine ⟨σ', ?_, ?_, fun f i hx => by rw [hσ', fl_se, fl_se, fl_se, fl_sf, if_neg (by omega)], by rw [hσ', fl_se, fl_se, fl_se, fl_sfs, wa], fun a j a1 a2 a3 => by rw [hσ', el_sen _ _ _ _ a3, el_sen _ _ _ _ a2, el_sen _ _ _ _ a1, el_sf], At.snoc (hA.mono (fun i k i0 i1 _ hk => by rw [eW, if_neg (by omega), eR, if_neg (by omega)]; exact hk)) (by rw [Int.zero_add, eW, if_pos rfl, eR, if_pos rfl]; exact ⟨rfl, rfl⟩), fun i i0 i1 => ?_⟩
  · rw [Sp_giveWeighted_123, grd_t h1.1, hW.1, grd_t hW.2.1, h209, show (ops.length : Int) + 1 - 1 = ops.length by omega, grd_t (by exact ⟨by omega, hW.2.2.2.1, by omega⟩), hR.1, grd_t hR.2.1, grd_t (by exact ⟨by omega, by omega, by omega⟩), hE.1, grd_t hE.2.1, grd_t (by exact ⟨by omega, by omega, by omega⟩), h202, hσ']
  · rw [hσ']
    exact ((((FRn.rf n0 π σ).sf 202 _ h1.2).se _ _ hW.2.2.1).se _ _ hR.2.2.1).se _ _ hE.2.2.1
  · rw [eE]
    by_cases c : i = ops.length
    · rw [if_pos c, show i.toNat + 1 = (ops ++ [(o, x, y)]).length by rw [List.length_append]; simp; omega, List.take_length, wa]
    · rw [if_neg c, hB i i0 (by omega), List.take_append_of_le_length (by omega)]
set_option maxHeartbeats 2000000 in
/-- a weighted part is given -/
theorem c_gw {π : Sh} {σ : St} {n0 s o x y lw : Int} {ops : List Kid} (h : OPs π σ n0 s ops) (hw : WTs π σ n0 s ops lw) (h202 : fl σ 202 s = wS ops) (hn : n0 ≤ nn π) (hl : ops.length ≤ 3000) (hlw : ops ≠ [] → lw = ln π (fl σ 210 s)) : ∃ π' σ' lw', Sp_giveWeighted N π σ s o x y = some (π', σ') ∧ FRn n0 π σ π' σ' ∧ nn π' ≤ nn π + 4 ∧ ((sw π' : Int) + 2 * ln π (fl σ 210 s) + 6 * lw ≤ sw π + 2 * ln π' (fl σ' 210 s) + 6 * lw') ∧ OPs π' σ' n0 s (ops ++ [(o, x, y)]) ∧ WTs π' σ' n0 s (ops ++ [(o, x, y)]) lw' ∧ fl σ' 202 s = wS (ops ++ [(o, x, y)]) ∧ lw' = ln π' (fl σ' 210 s) ∧ (∀ f i, ¬ (i = s ∧ (f = 202 ∨ (209 ≤ f ∧ f ≤ 213))) → fl σ' f i = fl σ f i) ∧ (∀ a j : Int, a < nn π → a ≠ fl σ 210 s → a ≠ fl σ 211 s → a ≠ fl σ 212 s → a ≠ fl σ 213 s → el σ' a j = el σ a j) ∧ (∀ f : Nat, 210 ≤ f → f ≤ 213 → fl σ' f s = fl σ f s ∨ nn π ≤ fl σ' f s) := by
  obtain ⟨π1, σ1, g1, g2, g3, g4, g5, g6, g7, g8⟩ := c_give (N := N) (o := o) h hn hl (x, y)
  obtain ⟨p1, p2, p3, p4, p5, p6, p7, p8⟩ := id g5
  have l0 : ((ops ++ [(o, x, y)]).length : Int) = ops.length + 1 := by rw [List.length_append]; simp
  rw [l0] at p3 p6 p7
  have hne : ops ++ [(o, x, y)] ≠ [] := by simp
  have n1 : (nn π : Int) ≤ nn π1 := by have := g2.1.1; omega
  have f202 : fl σ1 202 s = wS ops := by rw [g6 202 s (by omega)]; exact h202
  have un : Sp_giveWeighted N π σ s o x y = Sp_giveWeighted_5 N π1 σ1 s x y s := by
    rw [Sp_giveWeighted, g1, Option.bind_some, grd_t h.1]
  obtain ⟨A, hA⟩ : ∃ A, A = fl σ1 210 s := ⟨_, rfl⟩
  obtain ⟨cap, hcap⟩ : ∃ cap, cap = ln π1 A := ⟨_, rfl⟩
  rw [← hA, ← hcap] at p6 p7
  rw [← hA] at p4 p5 p8
  rw [← hA, ← hcap] at g4
  have sl := p1.2.1
  have al := p4.2.1
  -- once the three rows are there
  have fin : ∀ (πd : Sh) (σd : St) (W R E : Int), ext π1 πd → (∀ f i, ¬ (i = s ∧ 211 ≤ f ∧ f ≤ 213) → fl σd f i = fl σ1 f i) → (∀ a j : Int, a < nn π1 → el σd a j = el σ1 a j) → (fl σd 211 s = W ∧ ob πd W 22 ∧ n0 ≤ W ∧ ops.length < ln πd W ∧ ln πd W = cap) → (fl σd 212 s = R ∧ ob πd R 22 ∧ n0 ≤ R ∧ ln πd R = ln πd W) → (fl σd 213 s = E ∧ ob πd E 22 ∧ n0 ≤ E ∧ ln πd E = ln πd W) → (W ≠ R ∧ W ≠ E ∧ R ≠ E ∧ A ≠ W ∧ A ≠ R ∧ A ≠ E) → At (fun i (k : Kid) => el σd W i = k.2.1 ∧ el σd R i = k.2.2) 0 ops → (∀ i : Int, 0 ≤ i → i < ops.length → el σd E i = wS (ops.take (i.toNat + 1))) → ((W = fl σ 211 s ∨ nn π ≤ W) ∧ (R = fl σ 212 s ∨ nn π ≤ R) ∧ (E = fl σ 213 s ∨ nn π ≤ E)) → nn πd ≤ nn π + 4 → (sw πd : Int) + 6 * lw ≤ sw π1 + 6 * ln πd W → Sp_giveWeighted_5 N π1 σ1 s x y s = Sp_giveWeighted_123 N πd σd s x y → ∃ π' σ' lw', Sp_giveWeighted N π σ s o x y = some (π', σ') ∧ FRn n0 π σ π' σ' ∧ nn π' ≤ nn π + 4 ∧ ((sw π' : Int) + 2 * ln π (fl σ 210 s) + 6 * lw ≤ sw π + 2 * ln π' (fl σ' 210 s) + 6 * lw') ∧ OPs π' σ' n0 s (ops ++ [(o, x, y)]) ∧ WTs π' σ' n0 s (ops ++ [(o, x, y)]) lw' ∧ fl σ' 202 s = wS (ops ++ [(o, x, y)]) ∧ lw' = ln π' (fl σ' 210 s) ∧ (∀ f i, ¬ (i = s ∧ (f = 202 ∨ (209 ≤ f ∧ f ≤ 213))) → fl σ' f i = fl σ f i) ∧ (∀ a j : Int, a < nn π → a ≠ fl σ 210 s → a ≠ fl σ 211 s → a ≠ fl σ 212 s → a ≠ fl σ 213 s → el σ' a j = el σ a j) ∧ (∀ f : Nat, 210 ≤ f → f ≤ 213 → fl σ' f s = fl σ f s ∨ nn π ≤ fl σ' f s) := by
    intro πd σd W R E he hf hel hW hR hE hd hc1 hc2 hq hnn hsw h5
    have k210 : fl σd 210 s = A := by rw [hf 210 s (by omega)]; exact hA.symm
    obtain ⟨σ', q1, q2, q3, q4, q5, q6, q7⟩ := c_gw123 (N := N) (π := πd) (σ := σd) (n0 := n0) (s := s) (o := o) (x := x) (y := y) (ops := ops) ⟨p1.ext he, p2⟩ (by rw [hf 209 s (by omega)]; exact p3) (by rw [hf 202 s (by omega)]; exact f202) ⟨hW.1, hW.2.1, hW.2.2.1, hW.2.2.2.1, by omega⟩ hR hE ⟨hd.1, hd.2.1, hd.2.2.1⟩ hc1 hc2
    have k210' : fl σ' 210 s = A := by rw [q3 210 s (by omega)]; exact k210
    have lA : ln πd A = cap := by rw [hcap]; exact (he.2.2 A al).2
    refine ⟨πd, σ', ln πd W, by rw [un, h5]; exact q1, ?_, hnn, by rw [k210', lA]; omega, ⟨p1.ext he, p2, by rw [q3 209 s (by omega), hf 209 s (by omega), l0]; exact p3, ?_⟩, Or.inr ⟨hne, ?_, ?_, ?_, ?_, by rw [l0]; omega, ?_, ?_⟩, q4, by rw [k210', lA]; omega, fun f i hx => ?_, fun a j ha z0 z1 z2 z3 => ?_, fun f f1 f2 => ?_⟩
    · refine ⟨(g2.1.tr he), fun f i hi => ?_, fun a j ha => ?_⟩
      · rw [q2.2.1 f i hi, hf f i (by omega), g2.2.1 f i hi]
      · rw [q2.2.2 a j ha, hel a j (by omega), g2.2.2 a j ha]
    · rw [k210', lA]
      refine ⟨p4.ext he, p5, by rw [l0]; exact p6, by rw [l0]; exact p7, p8.mono (fun i k _ _ _ hk => ?_)⟩
      rw [q5 A i hd.2.2.2.1 hd.2.2.2.2.1 hd.2.2.2.2.2, hel A i al]; exact hk
    · rw [q3 211 s (by omega), hW.1]; exact ⟨hW.2.1, hW.2.2.1, rfl⟩
    · rw [q3 212 s (by omega), hR.1]; exact ⟨hR.2.1, hR.2.2.1, hR.2.2.2⟩
    · rw [q3 213 s (by omega), hE.1]; exact ⟨hE.2.1, hE.2.2.1, hE.2.2.2⟩
    · rw [q3 211 s (by omega), q3 212 s (by omega), q3 213 s (by omega), k210', hW.1, hR.1, hE.1]; exact hd
    · rw [q3 211 s (by omega), q3 212 s (by omega), hW.1, hR.1]; exact q6
    · rw [q3 213 s (by omega), hE.1]; exact q7
    · rw [q3 f i (by omega), hf f i (by omega), g6 f i (by omega)]
    · rw [q5 a j (by rcases hq.1 with q | q <;> omega) (by rcases hq.2.1 with q | q <;> omega) (by rcases hq.2.2 with q | q <;> omega), hel a j (by omega), g7 a j ha z0]
    · rcases (show f = 210 ∨ f = 211 ∨ f = 212 ∨ f = 213 by omega) with rfl | rfl | rfl | rfl
      · rw [k210', hA]; rcases g8 with q | q
        · exact Or.inl q
        · right; omega
      · rw [q3 211 s (by omega), hW.1]; exact hq.1
      · rw [q3 212 s (by omega), hR.1]; exact hq.2.1
      · rw [q3 213 s (by omega), hE.1]; exact hq.2.2
  have ocap : 0 ≤ cap := by omega
  rcases hw with ⟨w1, w2, w3, w4, w5⟩ | ⟨w1, ⟨a1, a2, a3⟩, ⟨b1, b2, b3⟩, ⟨c1, c2, c3⟩, ⟨d1, d2, d3, d4, d5, d6⟩, w6, w7, w8⟩
  · -- new rows
    subst w1
    obtain ⟨πa, hπa⟩ : ∃ πa, πa = nA π1 2 cap := ⟨_, rfl⟩
    obtain ⟨πb, hπb⟩ : ∃ πb, πb = nA πa 2 cap := ⟨_, rfl⟩
    obtain ⟨πc, hπc⟩ : ∃ πc, πc = nA πb 2 cap := ⟨_, rfl⟩
    have na : (nn πa : Int) = nn π1 + 1 := by rw [hπa, nn_nA]; omega
    have nb' : (nn πb : Int) = nn π1 + 2 := by rw [hπb, nn_nA]; omega
    have nc : (nn πc : Int) = nn π1 + 3 := by rw [hπc, nn_nA]; omega
    have ea : ext π1 πa := by rw [hπa]; exact ext_nA _ _ _
    have eb : ext πa πb := by rw [hπb]; exact ext_nA _ _ _
    have ec : ext πb πc := by rw [hπc]; exact ext_nA _ _ _
    have lAa : ln πa A = cap := by rw [hcap]; exact (ea.2.2 A al).2
    have lAb : ln πb A = cap := by rw [← lAa]; exact (eb.2.2 A (by omega)).2
    have oW : ob πa (nn π1) 22 := by rw [hπa]; exact ob_nA π1 2 cap
    have oR : ob πb (nn πa) 22 := by rw [hπb]; exact ob_nA πa 2 cap
    have oE : ob πc (nn πb) 22 := by rw [hπc]; exact ob_nA πb 2 cap
    have lW : ln πc (nn π1) = cap := by
      rw [(ec.2.2 _ (by omega)).2, (eb.2.2 _ (by omega)).2, hπa]; exact ln_nA π1 2 cap
    have lR : ln πc (nn πa) = cap := by
      rw [(ec.2.2 _ (by omega)).2, hπb]; exact ln_nA πa 2 cap
    have lE : ln πc (nn πb) = cap := by rw [hπc]; exact ln_nA πb 2 cap
    have sc : (sw πc : Int) = sw π1 + 3 * cap := by
      rw [hπc, hπb, hπa]
      show ((((sw π1 + cap.toNat) + cap.toNat) + cap.toNat : Nat) : Int) = _
      omega
    have f211 : fl σ1 211 s < 0 := by rw [g6 211 s (by omega), w3]; decide
    simp only [List.length_nil] at p6
    refine fin πc (sf (zA (sf (zA (sf (zA σ1 (nn π1) 0) 211 s (nn π1)) (nn πa) 0) 212 s (nn πa)) (nn πb) 0) 213 s (nn πb)) (nn π1) (nn πa) (nn πb) ((ea.tr eb).tr ec) (fun f i hx => ?_) (fun a j ha => ?_) ⟨?_, (oW.ext eb).ext ec, by omega, by rw [lW]; simp; omega, by omega⟩ ⟨?_, oR.ext ec, by omega, by rw [lW, lR]⟩ ⟨?_, oE, by omega, by rw [lW, lE]⟩ ⟨by omega, by omega, by omega, by omega, by omega, by omega⟩ trivial (fun i i0 i1 => by simp at i1; omega) ⟨Or.inr (by omega), Or.inr (by omega), Or.inr (by omega)⟩ (by omega) (by omega) ?_
    · rw [fl_sf, if_neg (by omega), fl_zA, fl_sf, if_neg (by omega), fl_zA, fl_sf, if_neg (by omega), fl_zA]
    · rw [el_sf, el_zA, if_neg (by omega), el_sf, el_zA, if_neg (by omega), el_sf, el_zA, if_neg (by omega)]
    · rw [fl_sfn _ _ _ _ (by decide), fl_zA, fl_sfn _ _ _ _ (by decide), fl_zA, fl_sfs]
    · rw [fl_sfn _ _ _ _ (by decide), fl_zA, fl_sfs]
    · rw [fl_sfs]
    · have q1 : fl (zA σ1 (nn π1) 0) 210 s = A := by rw [fl_zA]; exact hA.symm
      have q2 : fl (zA (sf (zA σ1 (nn π1) 0) 211 s (nn π1)) (nn πa) 0) 210 s = A := by rw [fl_zA, fl_sfn _ _ _ _ (by decide)]; exact q1
      rw [Sp_giveWeighted_5, grd_t p1, if_pos f211, Sp_giveWeighted_27, grd_t p1, ← hA, grd_t p4, ← hcap, grd_t (by omega), grd_t (by omega), grd_t (by omega), ← hπa, Sp_giveWeighted_35, grd_t (p1.ext ea), grd_t (p1.ext ea), q1, grd_t (p4.ext ea), lAa, grd_t (by omega), bnd, grd_t (by omega), grd_t (by omega), ← hπb, Sp_giveWeighted_46, grd_t ((p1.ext ea).ext eb), grd_t ((p1.ext ea).ext eb), q2, grd_t ((p4.ext ea).ext eb), lAb, grd_t (by omega), bnd, grd_t (by omega), grd_t (by omega), ← hπc, Sp_giveWeighted_57, grd_t (((p1.ext ea).ext eb).ext ec)]
  · have k211 := g6 211 s (by omega)
    have k212 := g6 212 s (by omega)
    have k213 := g6 213 s (by omega)
    have x1 := a1.2.1
    have x2 := b1.2.1
    have x3 := c1.2.1
    have y1 := a1.1
    have y2 := b1.1
    have y3 := c1.1
    have hlw' := hlw w1
    have g42 := g4.2
    have q211 : ¬ fl σ1 211 s < 0 := by omega
    have q212 : ¬ fl σ1 212 s < 0 := by omega
    have q213 : ¬ fl σ1 213 s < 0 := by omega
    have lw1 : ln π1 (fl σ 211 s) = lw := by rw [(g2.1.2.2 _ x1).2]; exact a3
    have lw2 : ln π1 (fl σ 212 s) = lw := by rw [(g2.1.2.2 _ x2).2]; exact b3
    have lw3 : ln π1 (fl σ 213 s) = lw := by rw [(g2.1.2.2 _ x3).2]; exact c3
    have con1 : At (fun i (k : Kid) => el σ1 (fl σ 211 s) i = k.2.1 ∧ el σ1 (fl σ 212 s) i = k.2.2) 0 ops := w7.mono (fun i k _ _ _ hk => by rw [g7 _ _ x1 (Ne.symm d4), g7 _ _ x2 (Ne.symm d5)]; exact hk)
    have con2 : ∀ i : Int, 0 ≤ i → i < ops.length → el σ1 (fl σ 213 s) i = wS (ops.take (i.toNat + 1)) := fun i i0 i1 => by rw [g7 _ _ x3 (Ne.symm d6)]; exact w8 i i0 i1
    have aNe : A = fl σ 210 s ∨ (nn π : Int) ≤ A := by rw [hA]; rcases g8 with h | h <;> omega
    have hAne : A ≠ fl σ 211 s ∧ A ≠ fl σ 212 s ∧ A ≠ fl σ 213 s := by rcases aNe with h | h <;> omega
    rw [← hlw'] at g42
    have g43 : cap = if (ops.length : Int) < lw then lw else 2 * (ops.length : Int) + 1 := g42
    by_cases cl : lw < ops.length + 1
    · -- longer rows
      rw [if_neg (by omega)] at g43
      have o1 := a1.ext g2.1
      have o2 := b1.ext g2.1
      have o3 := c1.ext g2.1
      have z1 : fl σ 211 s < nn π1 := o1.2.1
      have z2 : fl σ 212 s < nn π1 := o2.2.1
      have z3 : fl σ 213 s < nn π1 := o3.2.1
      obtain ⟨πa, hπa⟩ : ∃ πa, πa = nA π1 2 cap := ⟨_, rfl⟩
      obtain ⟨πb, hπb⟩ : ∃ πb, πb = nA πa 2 cap := ⟨_, rfl⟩
      obtain ⟨πc, hπc⟩ : ∃ πc, πc = nA πb 2 cap := ⟨_, rfl⟩
      have na : (nn πa : Int) = nn π1 + 1 := by rw [hπa, nn_nA]; omega
      have nb' : (nn πb : Int) = nn π1 + 2 := by rw [hπb, nn_nA]; omega
      have nc : (nn πc : Int) = nn π1 + 3 := by rw [hπc, nn_nA]; omega
      have ea : ext π1 πa := by rw [hπa]; exact ext_nA _ _ _
      have eb : ext πa πb := by rw [hπb]; exact ext_nA _ _ _
      have ec : ext πb πc := by rw [hπc]; exact ext_nA _ _ _
      have lAa : ln πa A = cap := by rw [hcap]; exact (ea.2.2 A al).2
      have lAb : ln πb A = cap := by rw [← lAa]; exact (eb.2.2 A (by omega)).2
      have oW : ob πa (nn π1) 22 := by rw [hπa]; exact ob_nA π1 2 cap
      have oR : ob πb (nn πa) 22 := by rw [hπb]; exact ob_nA πa 2 cap
      have oE : ob πc (nn πb) 22 := by rw [hπc]; exact ob_nA πb 2 cap
      have lW : ln πc (nn π1) = cap := by
        rw [(ec.2.2 _ (by omega)).2, (eb.2.2 _ (by omega)).2, hπa]; exact ln_nA π1 2 cap
      have lR : ln πc (nn πa) = cap := by
        rw [(ec.2.2 _ (by omega)).2, hπb]; exact ln_nA πa 2 cap
      have lE : ln πc (nn πb) = cap := by rw [hπc]; exact ln_nA πb 2 cap
      have lw2a : ln πa (fl σ 212 s) = lw := by rw [(ea.2.2 _ z2).2]; exact lw2
      have lw3b : ln πb (fl σ 213 s) = lw := by rw [(eb.2.2 _ (by omega)).2, (ea.2.2 _ z3).2]; exact lw3
      have sc : (sw πc : Int) = sw π1 + 3 * cap := by
        rw [hπc, hπb, hπa]
        show ((((sw π1 + cap.toNat) + cap.toNat) + cap.toNat : Nat) : Int) = _
        omega
      have mn : min lw cap = lw := by omega
      obtain ⟨τa, hτa⟩ : ∃ τa, τa = sf (cpe (zA σ1 (nn π1) 0) (nn π1) (fl σ 211 s) lw) 211 s (nn π1) := ⟨_, rfl⟩
      obtain ⟨τb, hτb⟩ : ∃ τb, τb = sf (cpe (zA τa (nn πa) 0) (nn πa) (fl σ 212 s) lw) 212 s (nn πa) := ⟨_, rfl⟩
      obtain ⟨τc, hτc⟩ : ∃ τc, τc = sf (cpe (zA τb (nn πb) 0) (nn πb) (fl σ 213 s) lw) 213 s (nn πb) := ⟨_, rfl⟩
      have cpf : ∀ (σ' : St) (a b n : Int) (f : Nat) (i : Int), fl (cpe σ' a b n) f i = fl σ' f i := fun _ _ _ _ _ _ => rfl
      have cpl : ∀ (σ' : St) (a b n x j : Int), el (cpe σ' a b n) x j = if x = a ∧ 0 ≤ j ∧ j < n then el σ' b j else el σ' x j := fun _ _ _ _ _ _ => rfl
      have fa : ∀ f i, ¬ (i = s ∧ f = 211) → fl τa f i = fl σ1 f i := fun f i hx => by rw [hτa, fl_sf, if_neg (by omega), cpf, fl_zA]
      have fb : ∀ f i, ¬ (i = s ∧ f = 212) → fl τb f i = fl τa f i := fun f i hx => by rw [hτb, fl_sf, if_neg (by omega), cpf, fl_zA]
      have fc : ∀ f i, ¬ (i = s ∧ f = 213) → fl τc f i = fl τb f i := fun f i hx => by rw [hτc, fl_sf, if_neg (by omega), cpf, fl_zA]
      have va : ∀ a j : Int, a ≠ nn π1 → el τa a j = el σ1 a j := fun a j ha => by rw [hτa, el_sf, cpl, if_neg (fun h => ha h.1), el_zA, if_neg ha]
      have vb : ∀ a j : Int, a ≠ nn πa → el τb a j = el τa a j := fun a j ha => by rw [hτb, el_sf, cpl, if_neg (fun h => ha h.1), el_zA, if_neg ha]
      have vc : ∀ a j : Int, a ≠ nn πb → el τc a j = el τb a j := fun a j ha => by rw [hτc, el_sf, cpl, if_neg (fun h => ha h.1), el_zA, if_neg ha]
      have ua : ∀ j : Int, 0 ≤ j → j < lw → el τa (nn π1) j = el σ1 (fl σ 211 s) j := fun j j0 j1 => by rw [hτa, el_sf, cpl, if_pos ⟨rfl, j0, j1⟩, el_zA, if_neg (by omega)]
      have ub : ∀ j : Int, 0 ≤ j → j < lw → el τb (nn πa) j = el σ1 (fl σ 212 s) j := fun j j0 j1 => by rw [hτb, el_sf, cpl, if_pos ⟨rfl, j0, j1⟩, el_zA, if_neg (by omega), va _ _ (by omega)]
      have uc : ∀ j : Int, 0 ≤ j → j < lw → el τc (nn πb) j = el σ1 (fl σ 213 s) j := fun j j0 j1 => by rw [hτc, el_sf, cpl, if_pos ⟨rfl, j0, j1⟩, el_zA, if_neg (by omega), vb _ _ (by omega), va _ _ (by omega)]
      refine fin πc τc (nn π1) (nn πa) (nn πb) ((ea.tr eb).tr ec) (fun f i hx => by rw [fc f i (by omega), fb f i (by omega), fa f i (by omega)]) (fun a j ha => by rw [vc a j (by omega), vb a j (by omega), va a j (by omega)]) ⟨?_, (oW.ext eb).ext ec, by omega, by rw [lW]; omega, by omega⟩ ⟨?_, oR.ext ec, by omega, by rw [lW, lR]⟩ ⟨?_, oE, by omega, by rw [lW, lE]⟩ ⟨by omega, by omega, by omega, by omega, by omega, by omega⟩ (con1.mono (fun i k i0 i1 _ hk => ?_)) (fun i i0 i1 => ?_) ⟨Or.inr (by omega), Or.inr (by omega), Or.inr (by omega)⟩ (by omega) (by omega) ?_
      · rw [fc 211 s (by omega), fb 211 s (by omega), hτa, fl_sfs]
      · rw [fc 212 s (by omega), hτb, fl_sfs]
      · rw [hτc, fl_sfs]
      · rw [vc _ _ (by omega), vb _ _ (by omega), ua i (by omega) (by omega), vc _ _ (by omega), ub i (by omega) (by omega)]; exact hk
      · rw [uc i i0 (by omega)]; exact con2 i i0 i1
      · have cpa : A_copy π1 σ1 (fl σ 211 s) cap = some (πa, cpe (zA σ1 (nn π1) 0) (nn π1) (fl σ 211 s) lw, (nn π1 : Int)) := by
          rw [A_copy, grd_t o1, grd_t (by omega), lw1, grd_t (by omega), grd_t (by omega), mn, hπa]
        have cpb : A_copy πa τa (fl σ 212 s) cap = some (πb, cpe (zA τa (nn πa) 0) (nn πa) (fl σ 212 s) lw, (nn πa : Int)) := by
          rw [A_copy, grd_t (o2.ext ea), grd_t (by omega), lw2a, grd_t (by omega), grd_t (by omega), mn, hπb]
        have cpc : A_copy πb τb (fl σ 213 s) cap = some (πc, cpe (zA τb (nn πb) 0) (nn πb) (fl σ 213 s) lw, (nn πb : Int)) := by
          rw [A_copy, grd_t ((o3.ext ea).ext eb), grd_t (by omega), lw3b, grd_t (by omega), grd_t (by omega), mn, hπc]
        have q2 : fl (cpe (zA σ1 (nn π1) 0) (nn π1) (fl σ 211 s) lw) 210 s = A := by rw [cpf, fl_zA]; exact hA.symm
        have q3 : fl (cpe (zA τa (nn πa) 0) (nn πa) (fl σ 212 s) lw) 210 s = A := by rw [cpf, fl_zA, fa 210 s (by omega)]; exact hA.symm
        have h212 : fl (cpe (zA σ1 (nn π1) 0) (nn π1) (fl σ 211 s) lw) 212 s = fl σ 212 s := by rw [cpf, fl_zA]; exact k212
        have h213 : fl (cpe (zA τa (nn πa) 0) (nn πa) (fl σ 212 s) lw) 213 s = fl σ 213 s := by rw [cpf, fl_zA, fa 213 s (by omega)]; exact k213
        rw [Sp_giveWeighted_5, grd_t p1, if_neg q211, if_neg q212, if_neg q213, k211, grd_t o1, lw1, grd_t (by omega), grd_t (by exact ⟨by omega, by omega⟩), p3, grd_t (by exact ⟨by omega, by omega⟩), if_pos (by omega), ← hA, grd_t p4, ← hcap, grd_t (by omega), cpa, Option.bind_some]
        simp only
        rw [Sp_giveWeighted_88, grd_t (p1.ext ea), grd_t (p1.ext ea), q2, grd_t (p4.ext ea), lAa, grd_t (by omega), bnd, h212, ← hτa, cpb, Option.bind_some]
        simp only
        rw [Sp_giveWeighted_104, grd_t ((p1.ext ea).ext eb), grd_t ((p1.ext ea).ext eb), q3, grd_t ((p4.ext ea).ext eb), lAb, grd_t (by omega), bnd, h213, ← hτb, cpc, Option.bind_some]
        simp only
        rw [Sp_giveWeighted_120, grd_t (((p1.ext ea).ext eb).ext ec), ← hτc]
    · rw [if_pos (by omega)] at g43
      refine fin π1 σ1 (fl σ 211 s) (fl σ 212 s) (fl σ 213 s) (ext.rf _) (fun _ _ _ => rfl) (fun _ _ _ => rfl) ⟨k211, a1.ext g2.1, a2, by omega, by omega⟩ ⟨k212, b1.ext g2.1, b2, by omega⟩ ⟨k213, c1.ext g2.1, c2, by omega⟩ ⟨d1, d2, d3, hAne⟩ con1 con2 ⟨Or.inl rfl, Or.inl rfl, Or.inl rfl⟩ (by omega) (by omega) ?_
      rw [Sp_giveWeighted_5, grd_t p1, if_neg q211, if_neg q212, if_neg q213, k211, grd_t (a1.ext g2.1), lw1, grd_t (by omega), grd_t (by exact ⟨by omega, by omega⟩), p3, grd_t (by exact ⟨by omega, by omega⟩), if_neg (by omega)]
end GW
