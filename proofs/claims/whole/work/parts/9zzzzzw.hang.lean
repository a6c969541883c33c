/-! hang -/
section HG9
variable {N n : Nat}
/-- a fault -/
theorem hang_ft {π0 π : Sh} {σ0 τ0 σ τ : St} {x1 v : Int} {ds : List Int} (hn : n < 512) (h : RO PRn (DRn N) RWd n π0 σ0 τ0) (hc0 : Cs_hang N π0 σ0 x1 = Cs_hang_84 N π σ v) (hr0 : r_hang N τ0 x1 = r_hang_106 N τ) (hv : v = fl τ 11 0) (ff : 1 ≤ fl τ 11 0 ∧ fl τ 11 0 ≤ 10) (alt : (fl σ 182 1 = fl τ 11 0 ∧ fl σ 183 1 = fl τ 12 0) ∨ (fl σ 182 1 = 0 ∧ fl σ 88 3 = fl τ 11 0 ∧ fl σ 89 3 = fl τ 12 0)) (c1 : fl σ 87 3 = fl τ 64 0) (s2 : KCf π0 σ0 π σ) (s3 : KRf τ0 τ) (tb : TBl τ0 τ) (hSv : fl τ 149 0 = fl τ0 16 0 ∧ fl τ 150 0 = fl τ0 48 0 ∧ fl τ 151 0 = fl τ0 61 0 ∧ fl τ 152 0 = fl τ0 28 0) (hL : LD π σ 43 ds) (e7 : (nn π : Int) ≤ 56 + 1000 * (n + 1)) (e8 : (sw π : Int) ≤ 57000 + 9340 * (n + 1) + 4 * cpc π0 σ0 42 + 4 * cpc π σ 43) : ∃ π' σ' τ' v, Cs_hang N π0 σ0 x1 = some (π', σ', v) ∧ r_hang N τ0 x1 = some (τ', v) ∧ RO PRn (DRn N) RWd (n + 1) π' σ' τ' := by
  obtain ⟨pl, hpl⟩ : ∃ pl, pl = fl τ 12 0 := ⟨_, rfl⟩
  have alt' : (fl σ 182 1 = 0 ∧ (1 ≤ fl σ 88 3 ∧ fl σ 88 3 ≤ 10) ∧ pl = fl σ 89 3) ∨ ((1 ≤ fl σ 182 1 ∧ fl σ 182 1 ≤ 10) ∧ pl = fl σ 183 1) := by
    rcases alt with ⟨e1, e2⟩ | ⟨e1, e2, e3⟩
    · exact Or.inr ⟨by omega, by omega⟩
    · exact Or.inl ⟨e1, by omega, by omega⟩
  obtain ⟨σ3, y1, y2, y3, y4, y5⟩ := c_finish (N := N) (π := π) (σ := σ) (v := v) (pl := pl) (Or.inr alt')
  obtain ⟨τ3, z1, z2, z3, z4, z5, z6⟩ := r_finF (N := N) (τ := τ) ⟨by omega, by omega⟩
  rw [if_neg (by omega), ← hv, ← hpl] at z4
  rw [← hv] at z1
  have hc : Cs_hang N π0 σ0 x1 = some (π, σ3, v) := by
    rw [hc0, Cs_hang_84, y1, Option.bind_some]
  have hr : r_hang N τ0 x1 = some (τ3, v) := by
    rw [hr0, r_hang_106, z1, Option.bind_some]
  have hcl : Cl π σ3 := (km_Cs_hang h.1 hc).2
  have e4 : fl σ3 255 0 = 1 ∧ fl σ3 256 0 = v ∧ fl σ3 257 0 = pl ∧ fl σ3 258 0 = fl τ 64 0 := by rw [← c1]; exact y4
  have e6 : ∀ f : Nat, f ≠ 1 → f ≠ 16 → f ≠ 28 → f ≠ 48 → f ≠ 61 → f ≠ 11 → f ≠ 12 → ¬ (118 ≤ f ∧ f ≤ 120) → fl τ3 f 0 = fl τ f 0 := fun f e1 e2 e3 e4 e5 _ _ e8 => z2 f e1 e2 e3 e4 e5 e8
  exact ⟨π, σ3, τ3, v, hc, hr, ro_fault hn h s2 s3 tb hSv hL e7 e8 y2 y3 e4 y5 e6 z3 z4 z5 z6 hcl⟩
/-- a pattern comes to a track -/
theorem hang_ok {π0 π : Sh} {σ0 τ0 σ τ : St} {x1 r p : Int} {ds : List Int} (hN : 64 ≤ N) (hn : n < 512) (h : RO PRn (DRn N) RWd n π0 σ0 τ0) (x0 : 0 ≤ x1) (x8 : x1 < 8) (hc0 : Cs_hang N π0 σ0 x1 = Option.bind (Cs_assign N π σ x1 r) (fun r20 => Cs_hang_84 N π r20 0)) (hr0 : r_hang N τ0 x1 = Option.bind (r_becomes N τ x1 p) (fun r28 => r_hang_106 N r28)) (hp : PRn π σ τ r p) (h11 : fl τ 11 0 = 0) (h182 : fl σ 182 1 = 0) (h88 : fl σ 88 3 = 0) (c1 : fl σ 87 3 = fl τ 64 0) (s2 : KCf π0 σ0 π σ) (s3 : KRf τ0 τ) (gr : GRW π0 σ0 τ0 π σ τ) (h16 : fl τ 16 0 = fl τ0 16 0) (h28 : fl τ 28 0 = fl τ0 28 0) (h48 : fl τ 48 0 ≤ fl τ0 48 0 + 200) (h61 : fl τ 61 0 ≤ fl τ0 61 0 + 400) (hL : LD π σ 43 ds) (e7 : (nn π : Int) ≤ 56 + 1000 * (n + 1)) (e8 : (sw π : Int) ≤ 57000 + 9340 * (n + 1) + 4 * cpc π0 σ0 42 + 4 * cpc π σ 43) : ∃ π' σ' τ' v, Cs_hang N π0 σ0 x1 = some (π', σ', v) ∧ r_hang N τ0 x1 = some (τ', v) ∧ RO PRn (DRn N) RWd (n + 1) π' σ' τ' := by
  obtain ⟨g1, g2, g3, g4, g5, g6, g7, g8⟩ := h
  have h56 := g1.1.1
  obtain ⟨-, dl, ds0, ⟨a1, a2, a3⟩, ⟨b1, b2, b3, b4⟩, ⟨k1, k2, k3⟩, d1, d2, d3, d4, d5, d6⟩ := g8
  have x42 := a1.a56
  have x43 := a2.a56
  have l42 := a1.ar
  have ou1 := OUr.kf (n := n) (σ := σ0) (τ := τ0) ⟨g3, g4, g6, g7⟩ h56 x43 s2 s3
  have tk1 : RTk PRn π σ τ := g5.gr gr.1 gr.2.1 (fun a j ha => s2.2.2.1 a j (by omega) (by omega) (by omega) (by omega)) (fun a j ha => s3.2 a j (by omega) (by omega)) (s3.1 116 0 (by unfold xR; omega))
  obtain ⟨σ4, τ4, m1, m2, m3, m4, m5, m6, m7⟩ := both_assign (N := N) (n := n) hN (inn_n (N := N)) ou1.1 tk1 x0 x8 hp
  obtain ⟨σ5, y1, y2, y3, y4, y5⟩ := c_finish (N := N) (π := π) (σ := σ4) (v := 0) (pl := -1) (Or.inl ⟨by rw [m3]; exact h182, by rw [m3]; exact h88, rfl⟩)
  obtain ⟨τ5, z1, z2, z3, z4, z5⟩ := r_fin0 (N := N) (τ := τ4) (by rw [m4]; exact h11)
  have hc : Cs_hang N π0 σ0 x1 = some (π, σ5, 0) := by
    rw [hc0, m1, Option.bind_some, Cs_hang_84, y1, Option.bind_some]
  have hr : r_hang N τ0 x1 = some (τ5, 0) := by
    rw [hr0, m2, Option.bind_some, r_hang_106, z1, Option.bind_some]
  have hcl : Cl π σ5 := (km_Cs_hang g1 hc).2
  have sf5 : ∀ (f : Nat) (i : Int), ¬ (i = 0 ∧ 255 ≤ f ∧ f ≤ 258) → ¬ (i = 1 ∧ f = 181) → fl σ5 f i = fl σ f i := fun f i x y => by rw [y2 f i x y, m3]
  have se5 : ∀ a j : Int, a < 51 ∨ 53 < a → el σ5 a j = el σ a j := fun a j x => by rw [y3, m5 a j x]
  have tf5 : ∀ f : Nat, f ≠ 1 → ¬ (118 ≤ f ∧ f ≤ 120) → fl τ5 f 0 = fl τ f 0 := fun f x y => by rw [z2 f x y, m4]
  have te5 : ∀ a j : Int, a < 27 ∨ 28 < a → el τ5 a j = el τ a j := fun a j x => by rw [z3, m6 a j x]
  have ou2 : OUr n σ4 τ4 := ou1.mv (fun f i _ => m3 f i) (fun a j ha => m5 a j (by omega)) (fun f _ => m4 f 0) (fun a j ha => m6 a j (by omega))
  have ou := ou2.told y2 y3 (fun f x y => z2 f (by omega) y) (fun a j _ => z3 a j) y4 (by rw [m3, c1, ← m4 64 0]; exact z4)
  have hx5 : HX π σ π σ5 := HX.all (ext.rf _) (fun f i hf _ => sf5 f i (by unfold inF at hf; omega) (by unfold inF at hf; omega)) (fun a j ha _ => se5 a j (by omega))
  have tx5 : TX τ τ5 := TX.eq (tf5 48 (by decide) (by omega)) (tf5 61 (by decide) (by omega)) (fun a j x y => te5 a j (by omega))
  have e16 := tf5 16 (by decide) (by omega)
  have e28 := tf5 28 (by decide) (by omega)
  have e48 := tf5 48 (by decide) (by omega)
  have e61 := tf5 61 (by decide) (by omega)
  have e34 := tf5 34 (by decide) (by omega)
  have g48 := gr.2.1.1
  have g61 := gr.2.1.2.1
  have g28 := gr.2.2.1
  have gr5 : GRW π0 σ0 τ0 π σ5 τ5 := gr.tr ⟨hx5, tx5, ⟨by omega, by omega⟩, by omega, fun a j x y _ => te5 a j (by omega), fun a j x y _ => te5 a j (by omega)⟩
  have ext1 := s2.1.1
  have cF : ∀ (f : Nat) (i : Int), i < nn π0 → ¬ xC f i → ¬ (i = 0 ∧ 255 ≤ f ∧ f ≤ 258) → ¬ (i = 1 ∧ f = 181) → fl σ5 f i = fl σ0 f i := fun f i x y z w => by rw [sf5 f i z w, s2.2.1 f i x y]
  have cE : ∀ a j : Int, 0 ≤ a → a < nn π0 → ¬ (5 ≤ a ∧ a ≤ 8) → a < 51 ∨ 53 < a → a ≠ fl σ0 1 43 → el σ5 a j = el σ0 a j := fun a j x0 x y w z => by rw [se5 a j w, s2.2.2.1 a j x0 x y z]
  have n42 : fl σ5 1 42 = fl σ0 1 42 := cF 1 42 (by omega) (by unfold xC; omega) (by omega) (by omega)
  have n43 : fl σ5 1 43 = fl σ 1 43 := sf5 1 43 (by omega) (by omega)
  have p42 : cpc π σ5 42 = cpc π0 σ0 42 := cpc_eq n42 s2.1 (by rcases l42 with q | q <;> omega)
  have p43 : cpc π σ5 43 = cpc π σ 43 := by unfold cpc; rw [n43]
  have f34 : fl τ5 34 0 = fl τ0 34 0 := by rw [e34, s3.1 34 0 (by unfold xR; omega)]
  have tk5 : RTk PRn π σ5 τ5 := by
    have hx45 : HX π σ4 π σ5 := HX.all (ext.rf _) (fun f i hf _ => y2 f i (by unfold inF at hf; omega) (by unfold inF at hf; omega)) (fun a j _ _ => y3 a j)
    have tx45 : TX τ4 τ5 := TX.eq (z2 48 (by decide) (by omega)) (z2 61 (by decide) (by omega)) (fun a j _ _ => z3 a j)
    exact m7.gr hx45 tx45 (fun a j _ => y3 a j) (fun a j _ => z3 a j) (z2 116 (by decide) (by omega))
  refine ⟨π, σ5, τ5, 0, hc, hr, hcl, ⟨by omega, by omega, by omega, fun j j0 j1 => by omega⟩, ou.1, ou.2.1, tk5, ou.2.2.1, ou.2.2.2, ⟨by omega, dl, ds, ⟨?_, ?_, ?_⟩, ⟨by omega, b2, ?_, fun e he => (b4 e he).keep gr5⟩, ⟨?_, ?_, ?_⟩, by omega, by omega, by omega, by omega, by omega, Or.inl ⟨z5, by omega, by rw [p42, p43]; omega⟩⟩⟩
  · exact a1.keep s2.1 ⟨n42, cF 2 42 (by omega) (by unfold xC; omega) (by omega) (by omega)⟩ (fun h0 j => cE _ j h0 (by rcases l42 with q | q <;> omega) (by omega) (by omega) (a3 h0))
  · exact hL.keep (ext.rf _) ⟨n43, sf5 2 43 (by omega) (by omega)⟩ (fun h0 j => se5 _ j (by have := hL.a56; omega))
  · intro h0
    rw [n42] at h0 ⊢
    rw [n43]
    rcases s2.2.2.2 with q | q
    · rw [q]; exact a3 h0
    · rcases l42 with w | w <;> omega
  · exact b3.mono (fun i e _ _ _ hq => by rw [te5 78 i (by omega), s3.2 78 i (by decide) (by decide)]; exact hq)
  · unfold FNc at k1 ⊢
    exact k1.mono (fun i e _ _ _ hq => by rw [cE 45 i (by decide) (by omega) (by decide) (by omega) (by omega)]; exact hq)
  · unfold FNr at k2 ⊢
    exact k2.mono (fun i e _ _ _ hq => by rw [te5 96 i (by omega), s3.2 96 i (by decide) (by decide)]; exact hq)
  · intro f x y
    rw [te5 95 f (by omega), s3.2 95 f (by decide) (by decide)]
    exact k3 f x y
set_option maxHeartbeats 4000000 in
theorem st_hang (hN : 30000001 ≤ N) (hn : n < 512) : St_hang N (RO PRn (DRn N) RWd n) (RO PRn (DRn N) RWd (n + 1)) := by
  intro π0 σ0 τ0 x1 h i1
  by_cases cx : 0 ≤ x1 ∧ x1 < 8
  · have h' := h
    obtain ⟨g1, g2, g3, g4, g5, g6, g7, g8⟩ := h
    have hS := g1.1
    have h56 := hS.1
    have hB := g8.bs hn
    obtain ⟨-, dl, ds0, ⟨a1, a2, a3⟩, ⟨b1, b2, b3, b4⟩, cF, d1, d2, d3, d4, d5, d6⟩ := g8
    have l42' : fl σ0 1 42 < nn π0 := by rcases a1.ar with q | q <;> omega
    obtain ⟨π1, σ1, τ1, p1, p2, rs, -, p38, p64, t28, t16⟩ := both_start (N := N) (by omega) hS g2 hB a1 a2 a3 b1 b3 b4 cF
    clear g3 g4 g5 g6 g7 a3 b3 b4 cF
    obtain ⟨⟨s1, s2, s3, s4⟩, ⟨t, f1, f2, f184⟩, ⟨c1, c2, c3, c4⟩, ⟨hL, h36, hA, hD⟩, hF, hSv, -, hNd, ⟨rm1, rm2⟩, pa1, pa2⟩ := rs
    rw [p64] at c1 rm1 rm2 pa1 pa2
    have n56 := s1.1
    have e142 : fl σ1 1 42 = fl σ0 1 42 := s2.2.1 1 42 (by omega) (by unfold xC; omega)
    have ex1 := s2.1.1
    have sz1 : fl τ1 1 0 = fl τ0 1 0 := s3.1 1 0 (by unfold xR; omega)
    have g16 := s4.2.2.2.1
    have lft := t.lf
    have hB' := hB
    obtain ⟨q1, q2, q3, q4, q5⟩ := hB'
    obtain ⟨π2, σ2, τ2, w1, w2, lc, hS2, lr, w3⟩ := both_whole (N := N) (dl := dl) hN s1 t f1 f2 f184 p38 hF (by omega) hL h36 hA (fun e he => ⟨(hD e he).1, (hD e he).2.1⟩) ⟨by omega, by omega⟩
    have cc : Cs_hang N π0 σ0 x1 = Cs_hang_20 N π2 σ2 x1 (nn π1) := by
      rw [Cs_hang, cs_track i1, if_pos cx]
      show grd (i32 1) _ = _
      rw [grd_t (by decide), if_neg (by decide), p1, Option.bind_some]
      simp only
      rw [Cs_hang_13, w1, Option.bind_some]
    have rr : r_hang N τ0 x1 = r_hang_65 N τ2 x1 := by
      rw [r_hang, grd_t i1, if_neg (by omega), if_pos cx.2, p2, Option.bind_some]
      exact w2 x1
    have kc2 : KCf π1 σ1 π2 σ2 := lc.kc n56
    have f43 : ∀ f : Nat, f ≤ 2 → fl σ2 f 43 = fl σ1 f 43 := fun f hf => lc.2.1 f 43 (by omega) (by omega) (by omega) (by omega)
    have ar1 : fl σ1 1 43 < nn π1 := by rcases hL.ar with q | q <;> omega
    have hL2 : LD π2 σ2 43 (dl.map Prod.fst) := hL.keep lc.1 ⟨f43 1 (by omega), f43 2 (by omega)⟩ (fun h0 j => lc.2.2 _ j h0 ar1)
    have cp2 : cpc π2 σ2 43 = cpc π1 σ1 43 := cpc_eq (f43 1 (by omega)) lc.1 ar1
    have m3 : ∀ f : Nat, fl σ2 f 3 = fl σ1 f 3 := fun f => lc.2.1 f 3 (by omega) (by omega) (by omega) (by omega)
    have u : ∀ f : Nat, 14 ≤ f → f ≠ 16 → f ≠ 38 → f ≠ 41 → f ≠ 46 → f ≠ 47 → fl τ2 f 0 = fl τ1 f 0 := fun f a1 a2 a3 a4 a5 a6 => lr.1 f 0 (by omega) a2 a3 a4 a5 a6
    have u64 : fl τ2 64 0 = 0 := by rw [u 64 (by decide) (by decide) (by decide) (by decide) (by decide) (by decide)]; exact p64
    have u61 : fl τ2 61 0 = fl τ1 61 0 := u 61 (by decide) (by decide) (by decide) (by decide) (by decide) (by decide)
    have u48 : fl τ2 48 0 = fl τ1 48 0 := u 48 (by decide) (by decide) (by decide) (by decide) (by decide) (by decide)
    have u28 : fl τ2 28 0 = fl τ1 28 0 := u 28 (by decide) (by decide) (by decide) (by decide) (by decide) (by decide)
    have sv2 : fl τ2 149 0 = fl τ0 16 0 ∧ fl τ2 150 0 = fl τ0 48 0 ∧ fl τ2 151 0 = fl τ0 61 0 ∧ fl τ2 152 0 = fl τ0 28 0 := by
      rw [u 149 (by decide) (by decide) (by decide) (by decide) (by decide) (by decide), u 150 (by decide) (by decide) (by decide) (by decide) (by decide) (by decide), u 151 (by decide) (by decide) (by decide) (by decide) (by decide) (by decide), u 152 (by decide) (by decide) (by decide) (by decide) (by decide) (by decide)]
      exact hSv
    rcases w3 with ⟨⟨e1, e2, e3⟩, e4, e5, e6⟩ | ⟨o, nd, w, z, L, Kn, k, b, ⟨y1, y2⟩, ⟨v1, v2, v3⟩, ⟨x1', x2, x3, x4, x5, x6⟩, hU, ⟨z1, z2⟩, rn1, rn2, s1z⟩
    · -- a fault of reading
      obtain ⟨τe, hτe⟩ : ∃ τe, τe = sf τ2 16 0 (fl τ2 149 0) := ⟨_, rfl⟩
      have ef : ∀ (f : Nat) (i : Int), f ≠ 16 → fl τe f i = fl τ2 f i := fun f i x => by rw [hτe, fl_sfn _ _ _ _ x]
      have ee : ∀ a j : Int, el τe a j = el τ2 a j := fun a j => by rw [hτe]; rfl
      have e11 : fl τe 11 0 = fl τ2 11 0 := ef 11 0 (by decide)
      have room : (nn π2 : Int) ≤ 56 + 1000 * (n + 1) ∧ (sw π2 : Int) ≤ 57000 + 9340 * (n + 1) + 4 * cpc π0 σ0 42 + 4 * cpc π2 σ2 43 := by
        by_cases s0 : fl τ0 1 0 = 0
        · obtain ⟨e7, e8⟩ := e6 (by omega)
          exact rm_end (σ := σ2) d6 (by omega) (by rw [cp2]; omega)
        · exact rm_fault (σ := σ2) d6 (by have := g2.2.1; omega) (by omega) (by rw [cp2]; omega)
      refine hang_ft (v := fl τ2 11 0) (σ := σ2) (τ := τe) hn h' ?_ ?_ e11.symm (by omega) (Or.inl ⟨by rw [e11]; exact e1, by rw [ef 12 0 (by decide)]; exact e2⟩) (by rw [m3 87, ef 64 0 (by decide), u64]; exact c1) (s2.tr kc2) (s3.tr (lr.kr.tr ⟨fun f i x => ef f i (by unfold xR at x; omega), fun a j _ _ => ee a j⟩)) (s4.tb ?_) (by rw [ef 149 0 (by decide), ef 150 0 (by decide), ef 151 0 (by decide), ef 152 0 (by decide)]; exact sv2) hL2 room.1 room.2
      · rw [cc, Cs_hang_20, e1, grd_t (by exact ⟨by omega, by omega⟩), if_neg (by omega), Cs_hang_43, e1, grd_t (by exact ⟨by omega, by omega⟩), if_neg (by omega), Cs_hang_71, grd_t (by exact ⟨by omega, by omega⟩), if_neg (by omega)]
      · rw [rr, r_hang_65, grd_t (by exact ⟨by omega, by omega⟩), if_neg (by omega), r_hang_84, grd_t (by exact ⟨by omega, by omega⟩), if_neg (by omega), ← hτe]
      · have q := lr.tb
        exact ⟨fun a j x y z => by rw [ee]; exact q.1 a j x y z, fun a j x y => by rw [ee]; exact q.2.1 a j x y, fun a j x y z => by rw [ee]; exact q.2.2.1 a j x y z, fun a j x y z => by rw [ee]; exact q.2.2.2 a j x y z⟩
    · -- it was read: both make it
      have hx2 : HX π1 σ1 π2 σ2 := kc2.hx n56 hL.ar
      have tx2 : TX τ1 τ2 := TX.eq u48 u61 (fun a j x y => lr.2.1 a j (by omega) (by omega) (by omega))
      have sq := bdy_sq y1
      have b28 := s4.2.2.1
      have us : ∀ y ∈ L, y.1 = 99 → UDl N 12 (π2, σ2, τ2, (nn π2 : Int) - 2 * fl τ2 64 0, (sw π2 : Int) - 7 * fl τ2 64 0 - fl τ2 61 0, fl τ2 61 0 + 2 * (200 - fl τ2 64 0) + 10) (fl τ1 16 0) y := fun y hy h9 => by
        obtain ⟨m1, m2⟩ := hU y hy h9
        exact UDb.ul _ _ _ ((hD _ m1).at (V' := fl τ1 28 0) hx2 tx2 ⟨Int.le_refl _, by omega⟩ (fun a v a1 a2 a3 => lr.2.1 a v (by omega) (by omega) (by omega)) (fun a i a1 a2 a3 => lr.2.2 a i (by omega) a2 a3) rfl rfl m2 (sq y hy h9) (by decide))
      have tk := v3.use (x := 12) (by decide)
      rw [v1, v2, show (12 : Int) - ((12 : Nat) : Int) = 0 by omega, show (13 : Int) - ((12 : Nat) : Int) = 1 by omega] at tk
      have H1 : HLv 1 = 18100 := by unfold HLv; omega
      have g48 := s4.2.1.1
      have g61 := s4.2.1.2.1
      obtain ⟨π3, σ3, τ3, r, p, m1, m2, ⟨fc, fr, hS3, a14, a88, anf, asf, alt⟩⟩ := both_make (N := N) hN hS2 (y1.ds y2) us tk (by omega) (by omega) (by omega) (by rw [m3 87, u64]; exact ⟨c1, by omega, by omega⟩) ⟨by rw [m3 88]; exact c4, z1⟩ rfl rfl ⟨rfl, by omega, by omega⟩ ⟨by omega, by omega⟩
      simp only at anf asf alt
      have n562 := hS2.1
      have kc3 : KCf π1 σ1 π3 σ3 := KCf.mk (g := (π2, σ2, τ2, (nn π2 : Int) - 2 * fl τ2 64 0, (sw π2 : Int) - 7 * fl τ2 64 0 - fl τ2 61 0, fl τ2 61 0 + 2 * (200 - fl τ2 64 0) + 10)) kc2 fc n562
      have kr3 : KRf τ1 τ3 := KRf.mk (g := (π2, σ2, τ2, (nn π2 : Int) - 2 * fl τ2 64 0, (sw π2 : Int) - 7 * fl τ2 64 0 - fl τ2 61 0, fl τ2 61 0 + 2 * (200 - fl τ2 64 0) + 10)) lr.kr fr
      have fcf : ∀ (f : Nat) (i : Int), i < nn π2 → ¬ (i = 3 ∧ 85 ≤ f ∧ f ≤ 89) → fl σ3 f i = fl σ2 f i := fun f i x y => fc.2.1 f i x y
      have fce : ∀ a j : Int, a < nn π2 → ¬ (5 ≤ a ∧ a ≤ 8) → el σ3 a j = el σ2 a j := fun a j x y => fc.2.2 a j x y
      have ar2 : fl σ2 1 43 < nn π2 := by rcases hL2.ar with q | q <;> omega
      have hL3 : LD π3 σ3 43 (dl.map Prod.fst) := hL2.keep fc.1 ⟨fcf 1 43 (by omega) (by omega), fcf 2 43 (by omega) (by omega)⟩ (fun h0 j => fce _ j ar2 (by have := hL2.a56; omega))
      have cp3 : cpc π3 σ3 43 = cpc π1 σ1 43 := by rw [← cp2]; exact cpc_eq (fcf 1 43 (by omega) (by omega)) fc.1 ar2
      have frf : ∀ f : Nat, f ≠ 11 → f ≠ 12 → f ≠ 48 → f ≠ 61 → f < 64 ∨ 83 < f → fl τ3 f 0 = fl τ2 f 0 := fun f e1 e2 e3 e4 e5 => fr.1 f 0 e1 e2 e3 e4 (by omega) (by omega) (by omega) (by omega) (by omega) (by omega)
      have fre : ∀ a j : Int, ¬ (53 ≤ a ∧ a ≤ 70) → a ≠ 84 → el τ3 a j = el τ2 a j := fun a j x y => fr.2.1 a j x y
      have frt : TX τ2 τ3 := fr.2.2
      obtain ⟨τe, hτe⟩ : ∃ τe, τe = sf τ3 16 0 (fl τ3 149 0) := ⟨_, rfl⟩
      have ef : ∀ (f : Nat) (i : Int), f ≠ 16 → fl τe f i = fl τ3 f i := fun f i x => by rw [hτe, fl_sfn _ _ _ _ x]
      have ee : ∀ a j : Int, el τe a j = el τ3 a j := fun a j => by rw [hτe]; rfl
      have kre : KRf τ0 τe := (s3.tr kr3).tr ⟨fun f i x => ef f i (by unfold xR at x; omega), fun a j _ _ => ee a j⟩
      have txe : TX τ1 τe := (tx2.tr frt).tr (TX.eq (ef 48 0 (by decide)) (ef 61 0 (by decide)) (fun a j _ _ => ee a j))
      have tabs : ∀ a j : Int, 79 ≤ a → a ≤ 83 → j < fl τ1 28 0 → el τe a j = el τ1 a j := fun a j x y z => by rw [ee, fre a j (by omega) (by omega), lr.2.1 a j (by omega) (by omega) (by omega)]
      have nods : ∀ a j : Int, 85 ≤ a → a ≤ 94 → j < fl τ1 16 0 → el τe a j = el τ1 a j := fun a j x y z => by rw [ee, fre a j (by omega) (by omega), lr.2.2 a j (by omega) y z]
      have sve : fl τe 149 0 = fl τ0 16 0 ∧ fl τe 150 0 = fl τ0 48 0 ∧ fl τe 151 0 = fl τ0 61 0 ∧ fl τe 152 0 = fl τ0 28 0 := by
        rw [ef 149 0 (by decide), ef 150 0 (by decide), ef 151 0 (by decide), ef 152 0 (by decide), frf 149 (by decide) (by decide) (by decide) (by decide) (by omega), frf 150 (by decide) (by decide) (by decide) (by decide) (by omega), frf 151 (by decide) (by decide) (by decide) (by decide) (by omega), frf 152 (by decide) (by decide) (by decide) (by decide) (by omega)]
        exact sv2
      have e182 : fl σ3 182 1 = 0 := by rw [fcf 182 1 (by omega) (by omega)]; exact z2
      have kc : KCf π0 σ0 π3 σ3 := s2.tr kc3
      have c87 : fl σ3 87 3 = fl τe 64 0 := by rw [ef 64 0 (by decide)]; exact a14.1
      have e11 : fl τe 11 0 = fl τ3 11 0 := ef 11 0 (by decide)
      have cc3 : Cs_hang N π0 σ0 x1 = Cs_hang_71 N π3 σ3 x1 r (fl τe 11 0) := by
        rw [cc, Cs_hang_20, z2, grd_t (by decide), if_pos rfl, m1, Option.bind_some]
        simp only
        rw [Cs_hang_39, Cs_hang_43, e182, grd_t (by decide), if_pos rfl, a88, e11]
      have rr3 : r_hang N τ0 x1 = r_hang_84 N τ3 x1 p := by
        rw [rr, r_hang_65, z1, grd_t (by decide), if_pos rfl, x1', m2, Option.bind_some]
      rcases alt with ⟨k11, k5, kpr, knn, ksw, k61, kkd, k48, k48', -⟩ | ⟨k11, rfl, rfl, k89⟩
      · have pm : fl τ3 48 0 + 200 ≤ (fl τ2 48 0 - fl τ2 64 0 + 200) + fl τ3 64 0 := k48'
        have e16 : fl τe 16 0 = fl τ0 16 0 := by rw [hτe, fl_sfs, ← ef 149 0 (by decide)]; exact sve.1
        have e28 : fl τe 28 0 = fl τ1 28 0 := by rw [ef 28 0 (by decide), frf 28 (by decide) (by decide) (by decide) (by decide) (by omega), u28]
        have e48 := ef 48 0 (by decide)
        have e61 := ef 61 0 (by decide)
        have gr : GRW π0 σ0 τ0 π3 σ3 τe := ⟨kc.hx h56 a2.ar, s4.2.1.tr txe, ⟨by omega, by omega⟩, by omega, fun a j x y z => by rw [tabs a j x y (by omega)]; exact s4.2.2.2.2.1 a j x y z, fun a j x y z => by rw [nods a j x y (by omega)]; exact s4.2.2.2.2.2 a j x y z⟩
        obtain ⟨e7, e8⟩ := rm_end (n := n) (π := π3) (σ := σ3) d6 (by omega) (by rw [cp3]; omega)
        refine hang_ok (σ := σ3) (τ := τe) (r := r) (p := p) (by omega) hn h' cx.1 cx.2 ?_ ?_ (kpr.grow (HX.rf _ _) (TX.eq e48 e61 (fun a j _ _ => ee a j))) (by rw [e11]; exact k11) e182 (by rw [a88]; exact k11) c87 kc kre gr e16 (by omega) (by omega) (by omega) hL3 e7 e8
        · rw [cc3, e11, k11, Cs_hang_71, grd_t (by decide), if_pos rfl]
        · rw [rr3, r_hang_84, k11, grd_t (by decide), if_pos rfl]
          simp only [bnd]
          rw [← hτe]
      · obtain ⟨e7, e8⟩ := rm_fault (n := n) (π := π3) (σ := σ3) d6 (by omega) (by omega) (by rw [cp3]; omega)
        refine hang_ft (v := fl τe 11 0) (σ := σ3) (τ := τe) hn h' ?_ ?_ rfl (by omega) (Or.inr ⟨e182, by rw [a88, e11], by rw [k89, ef 12 0 (by decide)]⟩) c87 kc kre (s4.tb ⟨fun a j x y z => txe.2.2.1 a j x y z, fun a j x y => txe.2.2.2 a j x y, tabs, nods⟩) sve hL3 e7 e8
        · rw [cc3, Cs_hang_71, grd_t (by exact ⟨by omega, by omega⟩), if_neg (by omega)]
        · rw [rr3, r_hang_84, grd_t (by exact ⟨by omega, by omega⟩), if_neg (by omega), ← hτe]
  · refine ⟨π0, σ0, τ0, -1, ?_, ?_, h.up inn_n hn⟩
    · rw [Cs_hang, cs_track i1, if_neg cx]
      show grd (i32 0) _ = _
      rw [grd_t (by decide), if_pos rfl]
    · rw [r_hang, grd_t i1]
      by_cases d : x1 < 0
      · rw [if_pos d]
      · rw [if_neg d, if_neg (by omega)]
end HG9
