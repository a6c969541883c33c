/-! the signs @ and ! behind a part, and the node of a step -/
section SG2
variable {N : Nat} {Xo : Int → Prop}
theorem XS.xf {π : Sh} {σ τ σ' τ' : St} {D P st cl : Int} {L : List Stq} {Kn : List Int} (h : XS Xo π σ τ D P L Kn st cl) (hc : XFc σ σ') (hr : XFr τ τ') (h1 : fl σ 222 50 ≤ fl σ' 222 50 ∧ fl σ' 222 50 ≤ cl) (h2 : fl τ' 2 0 = fl σ' 222 50) (h3 : fl σ' 182 1 = 0 ∧ fl τ' 11 0 = 0) : XS Xo π σ' τ' D P L Kn st cl := by
  obtain ⟨x1, x2, x3, ⟨x4, x4'⟩, x5, x6, x7, x8, x9⟩ := id h
  have b := x2.2.1
  have f : ∀ (g : Nat) (i : Int), ¬ (i = 50 ∧ (g = 222 ∨ g = 225)) → ¬ (i = 1 ∧ (g = 182 ∨ g = 183)) → fl σ' g i = fl σ g i := hc.1
  refine ⟨x1, x2.xf hc hr (by omega) (by omega), h2, h3, ?_, ?_, by rw [f 221 50 (by omega) (by omega)]; exact x7, x8.st (TX.rd ((RDr.rf 0 0 τ).xf hr)) (fun g i y z => f g i (by omega) (by omega)) hc.2, by rw [hr.1 16 0 (by decide) (by decide) (by decide) (by decide)]; exact x9⟩
  · rw [f 184 1 (by omega) (by omega), hr.1 13 0 (by decide) (by decide) (by decide) (by decide)]; exact x5
  · rw [f 224 50 (by omega) (by omega), hr.1 47 0 (by decide) (by decide) (by decide) (by decide)]; omega
theorem XS.rd {π : Sh} {σ τ τ' : St} {D P st cl lo d : Int} {L : List Stq} {Kn : List Int} (h : XS Xo π σ τ D P L Kn st cl) (hr : RDr lo d τ τ') (h1 : fl τ' 2 0 = fl τ 2 0 ∧ fl τ' 11 0 = fl τ 11 0 ∧ fl τ' 13 0 = fl τ 13 0 ∧ fl τ' 47 0 = fl τ 47 0 ∧ 0 ≤ fl τ' 16 0) : XS Xo π σ τ' D P L Kn st cl := by
  obtain ⟨x1, x2, x3, ⟨x4, x4'⟩, x5, x6, x7, x8, x9⟩ := id h
  have b := x2.2.1
  refine ⟨x1, x2.mv hr ⟨rfl, rfl, fun _ => rfl⟩ ⟨b.2.2.1, b.2.2.2.1⟩, by rw [h1.1]; exact x3, ⟨x4, by rw [h1.2.1]; exact x4'⟩, by rw [h1.2.2.1]; exact x5, by rw [h1.2.2.2.1, h1.1]; exact x6, x7, x8.mv (HP.rf _ _) (TX.rd hr) ⟨rfl, rfl, rfl⟩ (fun _ _ _ _ => rfl) (fun _ _ _ _ => rfl), h1.2.2.2.2⟩
theorem XSb.rd {π : Sh} {σ τ τ' : St} {D P st cl lo d : Int} {L : List Stq} {Kn : List Int} (h : XSb Xo π σ τ D P L Kn st cl) (hr : RDr lo d τ τ') (h1 : fl τ' 2 0 = fl τ 2 0 ∧ fl τ' 11 0 = fl τ 11 0 ∧ fl τ' 13 0 = fl τ 13 0 ∧ fl τ' 47 0 = fl τ 47 0 ∧ 0 ≤ fl τ' 16 0) : XSb Xo π σ τ' D P L Kn st cl := by
  obtain ⟨x, y1, y2, y3⟩ := h
  have f : ∀ (t : St) (g : Nat) (i : Int), g ≠ 2 → fl (sf t 2 0 (fl σ 222 50)) g i = fl t g i := fun t g i hx => fl_sfn _ _ _ _ hx
  refine ⟨x.rd (lo := lo) (d := d) ⟨fun g i a b c e q => ?_, fun a j y z => ?_, fun a j y z w => ?_, fun a j y z w => ?_⟩ ⟨by rw [fl_sfs, fl_sfs], by rw [f _ 11 0 (by decide), f _ 11 0 (by decide)]; exact h1.2.1, by rw [f _ 13 0 (by decide), f _ 13 0 (by decide)]; exact h1.2.2.1, by rw [f _ 47 0 (by decide), f _ 47 0 (by decide)]; exact h1.2.2.2.1, by rw [f _ 16 0 (by decide)]; exact h1.2.2.2.2⟩, by rw [h1.1]; exact y1, by rw [h1.1]; exact y2, fun i a b => by rw [bA_rd hr]; exact y3 i (by rw [h1.1] at a; exact a) b⟩
  · rw [f _ g i (by omega), f _ g i (by omega)]; exact hr.1 g i a b c e q
  · exact hr.2.1 a j y z
  · exact hr.2.2.1 a j y z w
  · exact hr.2.2.2 a j y z w
/-- one sign -/
theorem sg_one {π : Sh} {σ τ : St} {D P st cl m x5 s : Int} {L : List Stq} {Kn : List Int} {n : Nat} (hN : 3000 ≤ N) (h : XSb Xo π σ τ D P L Kn st cl) (hs : (x5 = 0 ∧ s = 64) ∨ (x5 = 1 ∧ s = 33)) (hm : inb m 32768) : ∃ σ' τ' v, Tx_behindSign N π σ s = some (σ', v) ∧ r_readStep_161 N (n + 1) τ m x5 = r_readStep_161 N n τ' m (x5 + 1) ∧ XFc σ σ' ∧ (∀ (f : Nat) (i : Int), f ≠ 2 → f ≠ 4 → f ≠ 11 → f ≠ 12 → fl τ' f i = fl τ f i) ∧ (∀ a i : Int, ¬ (a = 92 - x5 ∧ i = m) → el τ' a i = el τ a i) ∧ ((FLT σ' τ' ∧ XB σ' τ' st cl) ∨ (XSb Xo π σ' τ' D P L Kn st cl ∧ (1 ≤ v ∧ v ≤ 16) ∧ (el τ' (92 - x5) m = v ∨ (v = 1 ∧ el τ' (92 - x5) m = el τ (92 - x5) m)) ∧ fl τ 2 0 ≤ fl τ' 2 0)) := by
  obtain ⟨q, s1, s2, s3, s4, s5, s6⟩ := h.skip (N := N) hN
  have hB := h.2
  obtain ⟨σ1, hσ1⟩ : ∃ σ1, σ1 = sf σ 222 50 q := ⟨_, rfl⟩
  obtain ⟨τ1, hτ1⟩ : ∃ τ1, τ1 = sf τ 2 0 q := ⟨_, rfl⟩
  rw [← hσ1, ← hτ1] at s3
  rw [← hσ1] at s1
  rw [← hτ1] at s2
  have xb1 := s3.2.1
  have at1 : fl σ1 222 50 = q := by rw [hσ1, fl_sfs]
  have at1' : fl τ1 2 0 = q := by rw [hτ1, fl_sfs]
  have hc1 : XFc σ σ1 := by rw [hσ1]; exact (XFc.rf σ).at _
  have hr1 : XFr τ τ1 := by rw [hτ1]; exact (XFr.rf τ).at _
  have z182 := s3.2.2.2.1.1
  have z11 : fl τ 11 0 = 0 := by have e := s3.2.2.2.1.2; rw [hτ1, fl_sfn _ _ _ _ (by decide)] at e; exact e
  have size := xb1.1.2.2.1
  have bb := bA_rg xb1.1 q
  have b0 := xb1.2.1
  have bi : i32 (bA τ1 q) := ⟨by omega, by omega⟩
  have he : Tx_here N π σ1 = some (σ1, bA τ1 q) := by rw [c_here xb1, at1]
  have hr : r_byteAt N τ1 (fl τ1 2 0) = some (τ1, bA τ1 q) := by rw [at1', rr_byteAt xb1.1 (by exact ⟨by omega, by omega⟩)]
  have si : i32 s := by rcases hs with ⟨-, rfl⟩ | ⟨-, rfl⟩ <;> decide
  have cls : Tx_behindSign N π σ s = if bA τ1 q = s then Option.bind (Tx_number N π (sf σ1 222 50 (q + 1)) 1 16) (fun r17 => some (r17.1, r17.2)) else some (σ1, 1) := by
    rw [Tx_behindSign, s1, Option.bind_some, z182, grd_t (by decide), if_pos rfl, he, Option.bind_some]
    simp only
    rw [grd_t bi, grd_t si, bnd, at1]
  have ref : r_readStep_161 N (n + 1) τ m x5 = r_readStep_204 N (r_readStep_161 N n) τ1 m x5 (fl τ 2 0) s (bA τ1 q) := by
    rw [r_readStep_161, grd_t (by rcases hs with ⟨rfl, -⟩ | ⟨rfl, -⟩ <;> decide), if_pos (by omega), z11, grd_t (by decide), if_pos rfl, s2, Option.bind_some, hr, Option.bind_some]
    rcases hs with ⟨rfl, rfl⟩ | ⟨rfl, rfl⟩
    · rw [if_pos rfl]
    · rw [if_neg (by decide)]
  by_cases c : bA τ1 q = s
  · rw [if_pos c] at cls
    have qcl : q < cl := by
      by_cases c' : q < cl
      · exact c'
      · have := xb1.2.2.1; rw [show q = cl by omega, this] at c; omega
    obtain ⟨σ2, hσ2⟩ : ∃ σ2, σ2 = sf σ1 222 50 (q + 1) := ⟨_, rfl⟩
    obtain ⟨τ2, hτ2⟩ : ∃ τ2, τ2 = sf τ1 2 0 (q + 1) := ⟨_, rfl⟩
    have x2 : XS Xo π σ2 τ2 D P L Kn st cl := by rw [hσ2, hτ2]; exact s3.at ⟨by omega, by omega⟩
    rw [← hσ2] at cls
    have at2 : fl σ2 222 50 = q + 1 := by rw [hσ2, fl_sfs]
    have at2' : fl τ2 2 0 = q + 1 := by rw [hτ2, fl_sfs]
    obtain ⟨σ', τ3, v, w, p1, p2, p3, p4, p5, p6, p7, p8, p9, p10, p11⟩ := both_num (N := N) (π := π) (a := 1) (b := 16) hN x2.2.1 x2.2.2.1 x2.2.2.2.1.1 x2.2.2.2.1.2 ⟨⟨by decide, by decide⟩, by decide⟩
    rw [p1, Option.bind_some] at cls
    have hc2 : XFc σ1 σ2 := by rw [hσ2]; exact (XFc.rf σ1).at _
    have hr2 : XFr τ1 τ2 := by rw [hτ2]; exact (XFr.rf τ1).at _
    have hrr : XFr τ τ3 := (hr1.tr hr2).tr p4
    have ref2 : r_readStep_161 N (n + 1) τ m x5 = r_readStep_161 N n (se τ3 (92 - x5) m w) m (x5 + 1) := by
      rw [ref, r_readStep_204, grd_t bi, grd_t si, if_pos c, bnd, at1', ← hτ2, p2, Option.bind_some]
      rcases hs with ⟨rfl, rfl⟩ | ⟨rfl, rfl⟩
      · rw [grd_t (by decide), if_pos rfl, grd_t hm, r_readStep_261]; rfl
      · rw [grd_t (by decide), if_neg (by decide), grd_t hm, r_readStep_261]; rfl
    have x50 : 90 ≤ 92 - x5 ∧ 92 - x5 ≤ 92 := by omega
    have rdm : RDr 0 0 τ3 (se τ3 (92 - x5) m w) := (RDr.rf 0 0 τ3).sn _ m w (by omega) hm.1
    refine ⟨σ', se τ3 (92 - x5) m w, v, cls, ref2, (hc1.tr hc2).tr p3, fun f i a b c d => hrr.1 f i a b c d, fun a i hx => by rw [el_se, if_neg hx]; exact hrr.2 a i, ?_⟩
    rcases p11 with flt | ⟨o1, o2, o3, o4, o5, o6⟩
    · exact Or.inl ⟨flt, p5.mv rdm ⟨rfl, rfl, fun _ => rfl⟩ ⟨p5.2.1.2.2.1, p5.2.1.2.2.2.1⟩⟩
    · have xs : XS Xo π σ' τ3 D P L Kn st cl := x2.xf p3 p4 ⟨p6, p5.2.1.2.2.2.1⟩ p7 ⟨o1, o2⟩
      refine Or.inr ⟨(xs.rd rdm ⟨rfl, rfl, rfl, rfl, xs.2.2.2.2.2.2.2.2⟩).xb, ⟨o4, o5⟩, Or.inl (by rw [el_ses, o3]), ?_⟩
      show fl τ 2 0 ≤ fl τ3 2 0
      omega
  · rw [if_neg c] at cls
    have et : sf τ1 2 0 (fl τ 2 0) = τ := by rw [hτ1, sf_sf, sf_id rfl]
    refine ⟨σ1, τ, 1, cls, ?_, hc1, fun _ _ _ _ _ _ => rfl, fun _ _ _ => rfl, Or.inr ⟨⟨by rw [at1, ← hτ1]; exact s3, hB.1, by omega, fun i a b => s6 i a (by omega)⟩, by omega, Or.inr ⟨rfl, rfl⟩, Int.le_refl _⟩⟩
    rw [ref, r_readStep_204, grd_t bi, grd_t si, if_neg c, r_readStep_261, et]
/-- a sign, behind a fault -/
theorem sg_any {π : Sh} {σ τ : St} {st cl s : Int} (hN : 3000 ≤ N) (h : XB σ τ st cl) (hf : i32 (fl σ 182 1)) (hn : fl σ 182 1 ≠ 0) : ∃ σ', Tx_behindSign N π σ s = some (σ', 1) ∧ XFc σ σ' ∧ XB σ' τ st cl ∧ fl σ' 182 1 = fl σ 182 1 ∧ fl σ' 183 1 = fl σ 183 1 := by
  obtain ⟨q1, q2, q3, q4⟩ := nb_in h
  have b := h.2.1
  have f182 : fl (sf σ 222 50 (nb τ cl (fl σ 222 50))) 182 1 = fl σ 182 1 := fl_sfn _ _ _ _ (by decide)
  refine ⟨sf σ 222 50 (nb τ cl (fl σ 222 50)), ?_, (XFc.rf σ).at _, h.xf ((XFc.rf σ).at _) (XFr.rf τ) (by rw [fl_sfs]; omega) (by rw [fl_sfs]; omega), f182, fl_sfn _ _ _ _ (by decide)⟩
  rw [Tx_behindSign, c_skip hN h, Option.bind_some, f182, grd_t hf, if_neg hn]
/-- the reference's end of a step -/
def nwS (τ : St) (nd : Int) : St := apN (se (se (nwN τ 24 (el τ 93 nd)) 92 (fl τ 16 0) 1) 91 (fl τ 16 0) 1) (fl τ 16 0) nd
theorem r_121 {τ : St} {nd : Int} (h : (0 ≤ nd ∧ nd < fl τ 16 0) ∧ fl τ 16 0 < 32768) : r_readStep_121 N τ nd = r_readStep_161 N N (nwS τ nd) (fl τ 16 0) 0 := by
  have vv := nwN_v τ 24 (el τ 93 nd)
  have e87 : el (se (se (nwN τ 24 (el τ 93 nd)) 92 (fl τ 16 0) 1) 91 (fl τ 16 0) 1) 87 (fl τ 16 0) = -1 := by rw [el_sen _ _ _ _ (by decide), el_sen _ _ _ _ (by decide)]; exact vv.2.2.2.2.2.2.2.1
  rw [r_readStep_121, grd_t (by exact ⟨h.1.1, by omega⟩), r_node' ⟨by omega, h.2⟩, Option.bind_some]
  simp only
  rw [grd_t (by exact ⟨by omega, h.2⟩), bnd, r_append' (by exact ⟨by omega, h.2⟩) (by exact ⟨h.1.1, by omega⟩) (Or.inl e87) (by rw [e87]; decide), Option.bind_some]
  rfl
theorem nwS_v {τ : St} {nd m : Int} (h : nd < m) (hm : fl τ 16 0 = m) : (∀ (f : Nat) (i : Int), f ≠ 16 → fl (nwS τ nd) f i = fl τ f i) ∧ fl (nwS τ nd) 16 0 = m + 1 ∧ (el (nwS τ nd) 94 m = 24 ∧ el (nwS τ nd) 92 m = 1 ∧ el (nwS τ nd) 91 m = 1 ∧ el (nwS τ nd) 87 m = nd ∧ el (nwS τ nd) 85 m = -1) ∧ (∀ a i : Int, ¬ (84 ≤ a ∧ a ≤ 94 ∧ i = m) → ¬ (a = 85 ∧ i = nd) → el (nwS τ nd) a i = el τ a i) ∧ ∀ lo d, lo ≤ m ∧ lo ≤ nd → RDr lo d τ (nwS τ nd) := by
  have vv := nwN_v τ 24 (el τ 93 nd)
  rw [hm] at vv
  obtain ⟨t, ht⟩ : ∃ t, t = se (se (nwN τ 24 (el τ 93 nd)) 92 m 1) 91 m 1 := ⟨_, rfl⟩
  have e : nwS τ nd = apN t m nd := by unfold nwS; rw [hm, ht]
  have e87 : el t 87 m = -1 := by rw [ht, el_sen _ _ _ _ (by decide), el_sen _ _ _ _ (by decide)]; exact vv.2.2.2.2.2.2.2.1
  have a : ∀ x i, ¬ (x = 87 ∧ i = m) → ¬ (x = 86 ∧ i = m) → ¬ (x = 85 ∧ i = nd) → el (apN t m nd) x i = el t x i := fun x i y1 y2 y3 => by
    unfold apN
    rw [if_pos e87, el_se, if_neg (by omega), el_se, if_neg (by omega), el_se, if_neg (by omega)]
  rw [e]
  refine ⟨fun f i hf => by rw [apN_fl, ht, fl_se, fl_se]; exact nwN_fl _ _ _ _ _ hf, by rw [apN_fl, ht, fl_se, fl_se, nwN_16, hm], ⟨?_, ?_, ?_, ?_, ?_⟩, fun x i y1 y2 => ?_, fun lo d hl => ?_⟩
  · rw [a 94 m (by omega) (by omega) (by omega), ht, el_sen _ _ _ _ (by decide), el_sen _ _ _ _ (by decide)]; exact vv.1
  · rw [a 92 m (by omega) (by omega) (by omega), ht, el_sen _ _ _ _ (by decide), el_ses]
  · rw [a 91 m (by omega) (by omega) (by omega), ht, el_ses]
  · unfold apN; rw [if_pos e87, el_sen _ _ _ _ (by decide), el_sen _ _ _ _ (by decide), el_ses]
  · rw [a 85 m (by omega) (by omega) (by omega), ht, el_sen _ _ _ _ (by decide), el_sen _ _ _ _ (by decide)]; exact vv.2.2.2.2.2.2.2.2.2
  · rw [a x i (by omega) (by omega) y2, ht, el_se, if_neg (by omega), el_se, if_neg (by omega), nwN_el _ _ _ _ _ (by rw [hm]; exact y1)]
  · rw [ht]
    rw [ht] at e87
    exact apN_rd (((nwN_rd (RDr.rf lo d τ) _ _ (by omega)).sn 92 m 1 (by decide) (by omega)).sn 91 m 1 (by decide) (by omega)) ⟨hl.1, hl.2, Or.inl e87⟩
/-- both signs: how a step ends -/
theorem stp_end {π : Sh} {σ τ : St} {D P st cl nd lo d : Int} {L : List Stq} {Kn : List Int} (hN : 3000 ≤ N) (h : XSb Xo π σ τ D P L Kn st cl) (hm : (0 ≤ nd ∧ nd < fl τ 16 0) ∧ fl τ 16 0 < 32768) (hlo : lo ≤ nd) : ∃ σ1 σ' τ' w y, Tx_behindSign N π σ 64 = some (σ1, w) ∧ Tx_behindSign N π σ1 33 = some (σ', y) ∧ r_readStep_121 N τ nd = some τ' ∧ XFc σ σ' ∧ RDr lo d τ τ' ∧ ((FLT σ' τ' ∧ XB σ' τ' st cl) ∨ (XSb Xo π σ' τ' D P L Kn st cl ∧ fl τ' 41 0 = fl τ 41 0 - 1 ∧ fl τ' 46 0 = fl τ 16 0 ∧ fl τ' 16 0 = fl τ 16 0 + 1 ∧ fl τ' 13 0 = fl τ 13 0 ∧ (el τ' 94 (fl τ 16 0) = 24 ∧ el τ' 87 (fl τ 16 0) = nd ∧ el τ' 92 (fl τ 16 0) = w ∧ el τ' 91 (fl τ 16 0) = y) ∧ (1 ≤ w ∧ w ≤ 16) ∧ (1 ≤ y ∧ y ≤ 16) ∧ (∀ a i : Int, 85 ≤ a → a ≤ 94 → i < fl τ 16 0 → ¬ (a = 85 ∧ i = nd) → el τ' a i = el τ a i) ∧ fl τ 2 0 ≤ fl τ' 2 0)) := by
  obtain ⟨m, hm0⟩ : ∃ m, fl τ 16 0 = m := ⟨_, rfl⟩
  obtain ⟨n2, hn2⟩ : ∃ n2, N = n2 + 1 + 1 + 1 := ⟨N - 3, by omega⟩
  obtain ⟨v1, v2, v3, v4, v5⟩ := nwS_v (τ := τ) (nd := nd) (m := m) (by omega) hm0
  have r0 := r_121 (N := N) hm
  rw [hm0] at r0 hm ⊢
  obtain ⟨t0, ht0⟩ : ∃ t0, t0 = nwS τ nd := ⟨_, rfl⟩
  rw [← ht0] at r0 v1 v2 v3 v4 v5
  have rd0 := v5 lo d (by omega)
  have hx : XSb Xo π σ t0 D P L Kn st cl := h.rd rd0 ⟨v1 2 0 (by decide), v1 11 0 (by decide), v1 13 0 (by decide), v1 47 0 (by decide), by omega⟩
  have mb : inb m 32768 := ⟨by omega, by omega⟩
  have key : r_readStep_121 N τ nd = r_readStep_161 N (n2 + 1 + 1 + 1) t0 m 0 := by rw [r0]; exact congrArg (fun q => r_readStep_161 N q t0 m 0) hn2
  obtain ⟨σ1, τ1, w, a1, a2, a3, a4, a5, a6⟩ := sg_one (N := N) (x5 := 0) (s := 64) (m := m) (n := n2 + 1 + 1) hN hx (Or.inl ⟨rfl, rfl⟩) mb
  have rd1 : RDr lo d τ τ1 := rd0.tr (lo1 := lo) (d1 := d) ⟨fun f i y _ _ _ _ => a4 f i (by omega) (by omega) (by omega) (by omega), fun a j y z => a5 a j (by omega), fun a j y z q => a5 a j (by omega), fun a j y z q => a5 a j (by omega)⟩ (Int.le_refl _) (Int.le_refl _)
  rw [a2, show (0 : Int) + 1 = 1 by decide] at key
  rcases a6 with ⟨flt, xb⟩ | ⟨xs, b1, b2, b3⟩
  · have i1 : i32 (fl τ1 11 0) ∧ fl τ1 11 0 ≠ 0 := by have := flt.2.2; exact ⟨⟨by omega, by omega⟩, by omega⟩
    obtain ⟨σ', c1, c2, c3, c4, c5⟩ := sg_any (N := N) (π := π) (s := 33) hN xb (by rw [flt.1]; exact i1.1) (by rw [flt.1]; exact i1.2)
    have rd' : RDr lo d τ (sf (sf τ1 46 0 m) 41 0 (fl τ1 41 0 - 1)) := (rd1.sf 46 _ (by omega)).sf 41 _ (by omega)
    refine ⟨σ1, σ', sf (sf τ1 46 0 m) 41 0 (fl τ1 41 0 - 1), w, 1, a1, c1, ?_, a3.tr c2, rd', Or.inl ⟨⟨?_, ?_, ?_⟩, c3.mv (lo := m) (d := 0) (((RDr.rf m 0 τ1).sf 46 _ (by omega)).sf 41 _ (by omega)) ⟨rfl, rfl, fun _ => rfl⟩ ⟨c3.2.1.2.2.1, c3.2.1.2.2.2.1⟩⟩⟩
    · rw [key, r_readStep_161, grd_t (by decide), if_pos (by decide), grd_t i1.1, if_neg i1.2, r_readStep_267, r_finish', Option.bind_some]
    · rw [c4, flt.1, fl_sfn _ _ _ _ (by decide), fl_sfn _ _ _ _ (by decide)]
    · rw [c5, flt.2.1, fl_sfn _ _ _ _ (by decide), fl_sfn _ _ _ _ (by decide)]
    · rw [fl_sfn _ _ _ _ (by decide), fl_sfn _ _ _ _ (by decide)]; exact flt.2.2
  · obtain ⟨σ', τ2, y, d1, d2, d3, d4, d5, d6⟩ := sg_one (N := N) (x5 := 1) (s := 33) (m := m) (n := n2 + 1) hN xs (Or.inr ⟨rfl, rfl⟩) mb
    have rd2 : RDr lo d τ τ2 := rd1.tr (lo1 := lo) (d1 := d) ⟨fun f i y _ _ _ _ => d4 f i (by omega) (by omega) (by omega) (by omega), fun a j y z => d5 a j (by omega), fun a j y z q => d5 a j (by omega), fun a j y z q => d5 a j (by omega)⟩ (Int.le_refl _) (Int.le_refl _)
    obtain ⟨τ', hτ'⟩ : ∃ τ', τ' = sf (sf τ2 46 0 m) 41 0 (fl τ2 41 0 - 1) := ⟨_, rfl⟩
    have f' : ∀ (f : Nat) (i : Int), f ≠ 46 → f ≠ 41 → fl τ' f i = fl τ2 f i := fun f i y1 y2 => by rw [hτ', fl_sfn _ _ _ _ y2, fl_sfn _ _ _ _ y1]
    have rr : RDr m 0 τ2 τ' := by rw [hτ']; exact ((RDr.rf m 0 τ2).sf 46 _ (by omega)).sf 41 _ (by omega)
    have rd' : RDr lo d τ τ' := by rw [hτ']; exact (rd2.sf 46 _ (by omega)).sf 41 _ (by omega)
    have el' : ∀ a i, el τ' a i = el τ2 a i := fun a i => by rw [hτ']; rfl
    refine ⟨σ1, σ', τ', w, y, a1, d1, ?_, a3.tr d3, rd', ?_⟩
    · rw [key, d2, show (1 : Int) + 1 = 2 by decide, r_readStep_161, grd_t (by decide), if_neg (by decide), r_readStep_267, r_finish', Option.bind_some, hτ']
    · rcases d6 with ⟨flt, xb⟩ | ⟨xs2, e1, e2, e3⟩
      · refine Or.inl ⟨⟨?_, ?_, ?_⟩, xb.mv rr ⟨rfl, rfl, fun _ => rfl⟩ ⟨xb.2.1.2.2.1, xb.2.1.2.2.2.1⟩⟩
        · rw [f' 11 0 (by decide) (by decide)]; exact flt.1
        · rw [f' 12 0 (by decide) (by decide)]; exact flt.2.1
        · rw [f' 11 0 (by decide) (by decide)]; exact flt.2.2
      · have k16 : fl τ2 16 0 = m + 1 := by rw [d4 16 0 (by decide) (by decide) (by decide) (by decide), a4 16 0 (by decide) (by decide) (by decide) (by decide)]; exact v2
        refine Or.inr ⟨xs2.rd rr ⟨f' 2 0 (by decide) (by decide), f' 11 0 (by decide) (by decide), f' 13 0 (by decide) (by decide), f' 47 0 (by decide) (by decide), by rw [f' 16 0 (by decide) (by decide)]; omega⟩, ?_, ?_, ?_, ?_, ⟨?_, ?_, ?_, ?_⟩, b1, e1, fun a i x1 x2 x3 x4 => ?_, ?_⟩
        · rw [hτ', fl_sfs, d4 41 0 (by decide) (by decide) (by decide) (by decide), a4 41 0 (by decide) (by decide) (by decide) (by decide), v1 41 0 (by decide)]
        · rw [hτ', fl_sfn _ _ _ _ (by decide), fl_sfs]
        · rw [f' 16 0 (by decide) (by decide)]; exact k16
        · rw [f' 13 0 (by decide) (by decide), d4 13 0 (by decide) (by decide) (by decide) (by decide), a4 13 0 (by decide) (by decide) (by decide) (by decide), v1 13 0 (by decide)]
        · rw [el', d5 94 m (by omega), a5 94 m (by omega)]; exact v3.1
        · rw [el', d5 87 m (by omega), a5 87 m (by omega)]; exact v3.2.2.2.1
        · rw [el', d5 92 m (by omega)]
          rcases b2 with z | ⟨z1, z2⟩
          · exact z
          · rw [show (92 : Int) - 0 = 92 by decide] at z2
            rw [z2, z1]; exact v3.2.1
        · rw [el']
          rcases e2 with z | ⟨z1, z2⟩
          · exact z
          · rw [show (92 : Int) - 1 = 91 by decide] at z2
            rw [z2, z1, a5 91 m (by omega)]; exact v3.2.2.1
        · rw [el', d5 a i (by omega), a5 a i (by omega)]; exact v4 a i (by omega) x4
        · rw [f' 2 0 (by decide) (by decide)]
          have := v1 2 0 (by decide)
          omega
/-- the same, behind a fault -/
theorem stp_end_any {π : Sh} {σ τ : St} {st cl nd lo d : Int} (hN : 3000 ≤ N) (h : XB σ τ st cl) (hf : FLT σ τ) (hm : (0 ≤ nd ∧ nd < fl τ 16 0) ∧ fl τ 16 0 < 32768) (hlo : lo ≤ nd) : ∃ σ1 σ' τ' w y, Tx_behindSign N π σ 64 = some (σ1, w) ∧ Tx_behindSign N π σ1 33 = some (σ', y) ∧ r_readStep_121 N τ nd = some τ' ∧ XFc σ σ' ∧ RDr lo d τ τ' ∧ FLT σ' τ' ∧ XB σ' τ' st cl := by
  obtain ⟨m, hm0⟩ : ∃ m, fl τ 16 0 = m := ⟨_, rfl⟩
  obtain ⟨v1, v2, v3, v4, v5⟩ := nwS_v (τ := τ) (nd := nd) (m := m) (by omega) hm0
  have r0 := r_121 (N := N) hm
  rw [hm0] at r0 hm
  obtain ⟨t0, ht0⟩ : ∃ t0, t0 = nwS τ nd := ⟨_, rfl⟩
  rw [← ht0] at r0 v1 v2 v3 v4 v5
  have rd0 := v5 lo d (by omega)
  have i1 : i32 (fl τ 11 0) ∧ fl τ 11 0 ≠ 0 := by have := hf.2.2; exact ⟨⟨by omega, by omega⟩, by omega⟩
  obtain ⟨σ1, a1, a2, a3, a4, a5⟩ := sg_any (N := N) (π := π) (s := 64) hN h (by rw [hf.1]; exact i1.1) (by rw [hf.1]; exact i1.2)
  obtain ⟨σ', c1, c2, c3, c4, c5⟩ := sg_any (N := N) (π := π) (s := 33) hN a3 (by rw [a4, hf.1]; exact i1.1) (by rw [a4, hf.1]; exact i1.2)
  obtain ⟨n2, hn2⟩ : ∃ n2, N = n2 + 1 := ⟨N - 1, by omega⟩
  have key : r_readStep_121 N τ nd = r_readStep_161 N (n2 + 1) t0 m 0 := by rw [r0]; exact congrArg (fun q => r_readStep_161 N q t0 m 0) hn2
  have rd' : RDr lo d τ (sf (sf t0 46 0 m) 41 0 (fl t0 41 0 - 1)) := (rd0.sf 46 _ (by omega)).sf 41 _ (by omega)
  refine ⟨σ1, σ', sf (sf t0 46 0 m) 41 0 (fl t0 41 0 - 1), 1, 1, a1, c1, ?_, a2.tr c2, rd', ⟨?_, ?_, ?_⟩, c3.mv rd' ⟨rfl, rfl, fun _ => rfl⟩ ⟨c3.2.1.2.2.1, c3.2.1.2.2.2.1⟩⟩
  · rw [key, r_readStep_161, grd_t (by decide), if_pos (by decide), v1 11 0 (by decide), grd_t i1.1, if_neg i1.2, r_readStep_267, r_finish', Option.bind_some]
  · rw [c4, a4, hf.1, fl_sfn _ _ _ _ (by decide), fl_sfn _ _ _ _ (by decide), v1 11 0 (by decide)]
  · rw [c5, a5, hf.2.1, fl_sfn _ _ _ _ (by decide), fl_sfn _ _ _ _ (by decide), v1 12 0 (by decide)]
  · rw [fl_sfn _ _ _ _ (by decide), fl_sfn _ _ _ _ (by decide), v1 11 0 (by decide)]; exact hf.2.2
end SG2
