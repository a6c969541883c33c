/-! read -/
section RD9
variable {N n : Nat}
set_option maxHeartbeats 1600000 in
theorem st_read (hN : 30000001 ≤ N) (hn : n < 512) : St_read N (RO PRn (DRn N) RWd n) (RO PRn (DRn N) RWd (n + 1)) := by
  intro π0 σ0 τ0 h
  have h' := h
  obtain ⟨g1, g2, g3, g4, g5, g6, g7, g8⟩ := h
  have hS := g1.1
  have h56 := hS.1
  have hB := g8.bs hn
  obtain ⟨-, dl, ds0, ⟨a1, a2, a3⟩, ⟨b1, b2, b3, b4⟩, cF, d1, d2, d3, d4, d5, d6⟩ := g8
  have x42 := a1.a56
  have x43 := a2.a56
  have l42 := a1.ar
  have l42' : fl σ0 1 42 < nn π0 := by rcases l42 with q | q <;> omega
  obtain ⟨π1, σ1, τ1, p1, p2, rs, p3⟩ := both_start (N := N) (by omega) hS g2 hB a1 a2 a3 b1 b3 b4 cF
  have t1 := rs.2.1.1
  have kd1 := t1.kd
  have lf1 := t1.lf
  have q4 := t1.2.2.2.1
  obtain ⟨π2, σ2, τ2, q1, q2, q3⟩ := read_lp (N := N) hN hB l42' h56 2001 N N π1 σ1 τ1 dl 0 (by omega) (by omega) (by omega) (Int.le_refl _) q4.1 rs
  have s0 := g2.2.1
  -- both begin
  have cc : Cs_read N π0 σ0 = Cs_read_61 N π2 σ2 := by
    rw [Cs_read, p1, Option.bind_some]
    simp only
    rw [Cs_read_4, Rd_hasMore, grd_t kd1.1]
    by_cases c : fl σ1 185 1 = 6
    · rw [if_pos c, Option.bind_some]
      rw [if_pos c] at q1
      exact q1
    · rw [if_neg c, Option.bind_some]
      rw [if_neg c] at q1
      exact q1
  have rr : r_read N τ0 = r_read_40 N τ2 := by
    rw [r_read, p2, Option.bind_some]
    exact q2
  rcases q3 with ⟨dl', rs2⟩ | ⟨ft, sp⟩
  · obtain ⟨⟨s1, s2, s3, s4⟩, ⟨t, f1, f2, f184⟩, ⟨c1, c2, c3, c4⟩, ⟨hL, h36, hA, hD⟩, hF, hSv, ⟨n1, n2, n3⟩, hNd, ⟨rm1, rm2⟩, pa1, pa2⟩ := rs2
    have t4 := t.2.2.2.1
    have lft := t.lf
    have lm : (dl'.map Prod.fst).length = dl'.length := List.length_map ..
    have sz2 : fl σ2 2 43 = dl'.length := by rw [hL.2.1, lm]
    have l7 := hL.2.2.1
    have sz : fl τ2 1 0 = fl τ0 1 0 := s3.1 1 0 (by unfold xR; omega)
    have cc2 : Cs_read_61 N π2 σ2 = if (40 : Int) < dl'.length then Cs_read_108 N π2 σ2 11 else Cs_read_108 N π2 σ2 0 := by
      rw [Cs_read_61, f1, grd_t (by decide), if_pos rfl, c4, Cs_read_88, grd_t (by decide), if_pos rfl, L_size, grd_t hL.1, Option.bind_some]
      simp only
      rw [sz2, grd_t (by exact ⟨by omega, by omega⟩)]
    have rr2 : r_read_40 N τ2 = if (40 : Int) < dl'.length then Option.bind (r_fail N τ2 11 (-1)) (fun r16 => r_read_63 N r16) else r_read_63 N τ2 := by
      rw [r_read_40, f2, grd_t (by decide), if_pos rfl, h36, grd_t (by exact ⟨by omega, by omega⟩)]
    have c42 : cpc π2 σ2 42 = cpc π0 σ0 42 := cpc_eq (s2.2.1 1 42 (by omega) (by unfold xC; omega)) s2.1 l42'
    have r1 : (nn π2 : Int) ≤ nn π0 + 12 * fl τ0 1 0 + 440 := by clear n3 n2 hNd; omega
    have r2 : (sw π2 : Int) + 4 * cpc π0 σ0 43 ≤ sw π0 + 174 * fl τ0 1 0 + 1800 + 4 * cpc π2 σ2 43 := by clear n3 n2 hNd; omega
    by_cases c40 : (40 : Int) < dl'.length
    · -- too many
      obtain ⟨τe, hτe⟩ : ∃ τe, τe = sf (sf τ2 11 0 11) 12 0 (-1) := ⟨_, rfl⟩
      have e11 : fl τe 11 0 = 11 := by rw [hτe, fl_sfn _ _ _ _ (by decide), fl_sfs]
      have ef : ∀ (f : Nat) (i : Int), f ≠ 11 → f ≠ 12 → fl τe f i = fl τ2 f i := fun f i x y => by rw [hτe, fl_sfn _ _ _ _ y, fl_sfn _ _ _ _ x]
      have ee : ∀ a j : Int, el τe a j = el τ2 a j := fun a j => by rw [hτe]; rfl
      obtain ⟨σ3, y1, y2, y3, y4, y5⟩ := c_finish (N := N) (π := π2) (σ := σ2) (v := 11) (pl := -1) (Or.inl ⟨f1, c4, rfl⟩)
      obtain ⟨τ3, z1, z2, z3, z4, z5, z6⟩ := r_finF (N := N) (τ := τe) ⟨by omega, by omega⟩
      rw [e11] at z1 z4
      rw [if_pos rfl] at z4
      have hc : Cs_read N π0 σ0 = some (π2, σ3, 11) := by
        rw [cc, cc2, if_pos c40, Cs_read_108, grd_t (by decide), if_neg (by decide), Cs_read_123, y1, Option.bind_some]
      have hr : r_read N τ0 = some (τ3, 11) := by
        rw [rr, rr2, if_pos c40, r_fail, f2, grd_t (by decide), if_pos rfl, Option.bind_some, ← hτe, r_read_63, e11, grd_t (by decide), if_neg (by decide), r_read_106, z1, Option.bind_some]
      refine ⟨π2, σ3, τ3, 11, hc, hr, ?_⟩
      have hcl : Cl π2 σ3 := (km_Cs_read g1 hc).2
      have e1 : KRf τ0 τe := s3.tr ⟨fun f i x => ef f i (by unfold xR at x; omega) (by unfold xR at x; omega), fun a j _ _ => ee a j⟩
      have e2 : TBl τ0 τe := s4.tb ⟨fun a j _ _ _ => ee a j, fun a j _ _ => ee a j, fun a j _ _ _ => ee a j, fun a j _ _ _ => ee a j⟩
      have e3 : fl τe 149 0 = fl τ0 16 0 ∧ fl τe 150 0 = fl τ0 48 0 ∧ fl τe 151 0 = fl τ0 61 0 ∧ fl τe 152 0 = fl τ0 28 0 := by rw [ef 149 0 (by decide) (by decide), ef 150 0 (by decide) (by decide), ef 151 0 (by decide) (by decide), ef 152 0 (by decide) (by decide)]; exact hSv
      have e4 : fl σ3 255 0 = 1 ∧ fl σ3 256 0 = 11 ∧ fl σ3 257 0 = -1 ∧ fl σ3 258 0 = fl τ2 64 0 := by rw [← c1]; exact y4
      have e5 : fl τ3 118 0 = 11 ∧ fl τ3 119 0 = -1 ∧ fl τ3 120 0 = fl τ2 64 0 := by rw [ef 64 0 (by decide) (by decide)] at z4; exact z4
      have e6 : ∀ f : Nat, f ≠ 1 → f ≠ 16 → f ≠ 28 → f ≠ 48 → f ≠ 61 → f ≠ 11 → f ≠ 12 → ¬ (118 ≤ f ∧ f ≤ 120) → fl τ3 f 0 = fl τe f 0 := fun f e1 e2 e3 e4 e5 _ _ e8 => z2 f e1 e2 e3 e4 e5 e8
      obtain ⟨e7, e8⟩ := rm_end (σ := σ2) (π := π2) d6 (by omega) (by omega)
      exact ro_fault hn h' s2 e1 e2 e3 hL e7 e8 y2 y3 e4 y5 e6 z3 e5 z5 z6 hcl
    · -- they hold from now on
      have hL42 : LD π2 σ2 42 (dl.map Prod.fst) := a1.keep s2.1 ⟨s2.2.1 1 42 (by omega) (by unfold xC; omega), s2.2.1 2 42 (by omega) (by unfold xC; omega)⟩ (fun h0 j => s2.2.2.1 _ j h0 l42' (by omega) (a3 h0))
      have e42 : fl σ2 1 42 = fl σ0 1 42 := s2.2.1 1 42 (by omega) (by unfold xC; omega)
      have ex2 := s2.1.1
      obtain ⟨π3, σ3, w1, w2, w3, w4, w5, w6, w7⟩ := c_copy (N := N) (x0 := 43) (x1 := 42) (by omega) (by decide) s1.1 hL hL42 (fun h0 q => by
        rcases s2.2.2.2 with y | y
        · rw [y, e42] at q
          exact a3 (by omega) q.symm
        · omega)
      rw [lm] at w6
      obtain ⟨σ4, y1, y2, y3, y4, y5⟩ := c_finish (N := N) (π := π3) (σ := σ3) (v := 0) (pl := -1) (Or.inl ⟨by rw [w2.2.1 182 1 (by omega) (by omega)]; exact f1, by rw [w2.2.1 88 3 (by omega) (by omega)]; exact c4, rfl⟩)
      obtain ⟨τa, hτa⟩ : ∃ τa, τa = sf τ2 34 0 (fl τ2 36 0) := ⟨_, rfl⟩
      have af : ∀ (f : Nat) (i : Int), f ≠ 34 → fl τa f i = fl τ2 f i := fun f i x => by rw [hτa, fl_sfn _ _ _ _ x]
      have ae : ∀ a j : Int, el τa a j = el τ2 a j := fun a j => by rw [hτa]; rfl
      have a34 : fl τa 34 0 = dl'.length := by rw [hτa, fl_sfs]; exact h36
      obtain ⟨τb, k1, k2, k3, k4⟩ := rh_lp (N := N) dl'.length N τa 0 dl'.length (by omega) (by omega) (by omega) (by omega) (by omega) a34
      have bf : ∀ f : Nat, f ≠ 34 → fl τb f 0 = fl τ2 f 0 := fun f x => by rw [k2, af f 0 x]
      have be : ∀ a j : Int, a ≠ 78 → el τb a j = el τ2 a j := fun a j x => by rw [k3 a j (by omega), ae]
      obtain ⟨τ3, z1, z2, z3, z4, z5⟩ := r_fin0 (N := N) (τ := τb) (by rw [bf 11 (by decide)]; exact f2)
      have hc : Cs_read N π0 σ0 = some (π3, σ4, 0) := by
        rw [cc, cc2, if_neg c40, Cs_read_108, grd_t (by decide), if_pos rfl, w1, Option.bind_some]
        simp only
        rw [Cs_read_123, y1, Option.bind_some]
      have hr : r_read N τ0 = some (τ3, 0) := by
        rw [rr, rr2, if_neg c40, r_read_63, f2, grd_t (by decide), if_pos rfl, ← hτa, k1, r_read_106, z1, Option.bind_some]
      refine ⟨π3, σ4, τ3, 0, hc, hr, ?_⟩
      have n562 := s1.1
      have x42' := hL42.a56
      have x43' := hL.a56
      have tf : ∀ f : Nat, f ≠ 34 → f ≠ 1 → ¬ (118 ≤ f ∧ f ≤ 120) → fl τ3 f 0 = fl τ2 f 0 := fun f x y z => by rw [z2 f y z, bf f x]
      have te : ∀ a j : Int, a ≠ 78 → el τ3 a j = el τ2 a j := fun a j x => by rw [z3, be a j x]
      have u28 := tf 28 (by decide) (by decide) (by omega)
      have u16 := tf 16 (by decide) (by decide) (by omega)
      have u48 := tf 48 (by decide) (by decide) (by omega)
      have u61 := tf 61 (by decide) (by decide) (by omega)
      have hxa : HX π2 σ2 π3 σ3 := w2.hx (Or.inl rfl) hL42.ar
      have hxb : HX π3 σ3 π3 σ4 := HX.all (ext.rf _) (fun f i hf _ => y2 f i (by unfold inF at hf; omega) (by unfold inF at hf; omega)) (fun a j _ _ => y3 a j)
      have txa : TX τ2 τ3 := TX.eq u48 u61 (fun a j x y => te a j (by omega))
      have g28 := s4.2.2.1
      have g48 := s4.2.1.1
      have g61 := s4.2.1.2.1
      have g16 := s4.2.2.2.1
      have gr : GRW π2 σ2 τ2 π3 σ4 τ3 := ⟨hxa.tr hxb, txa, ⟨by omega, by omega⟩, by omega, fun a j x y _ => te a j (by omega), fun a j x y _ => te a j (by omega)⟩
      have ou1 := OUr.kf (n := n) (σ := σ0) (τ := τ0) ⟨g3, g4, g6, g7⟩ h56 x43 s2 s3
      have w3f : ∀ (f : Nat) (i : Int), i < 56 → i ≠ 42 → fl σ3 f i = fl σ2 f i := fun f i x y => w2.2.1 f i (by omega) (by omega)
      have w3e : ∀ a j : Int, 0 ≤ a → a < 56 → el σ3 a j = el σ2 a j := fun a j x y => w2.2.2.1 a j (by omega) (by omega)
      have ou2 : OUr n σ3 τ2 := ou1.mv (fun f i x => w3f f i (by omega) (by omega)) (fun a j x => w3e a j (by omega) (by omega)) (fun _ _ => rfl) (fun _ _ _ => rfl)
      have ou := ou2.told y2 y3 (fun f x y => tf f (by omega) (by omega) y) (fun a j x => te a j (by omega)) y4 (by rw [w3f 87 3 (by omega) (by omega), c1, ← bf 64 (by decide)]; exact z4)
      have v1 : ∀ f : Nat, f ≤ 2 → fl σ4 f 42 = fl σ3 f 42 := fun f x => y2 f 42 (by omega) (by omega)
      have v2 : ∀ f : Nat, f ≤ 2 → fl σ4 f 43 = fl σ3 f 43 := fun f x => y2 f 43 (by omega) (by omega)
      have p42 : cpc π3 σ4 42 = cpc π3 σ3 42 := by unfold cpc; rw [v1 1 (by omega)]
      have p43 : cpc π3 σ4 43 = cpc π2 σ2 43 := cpc_eq (by rw [v2 1 (by omega), w3f 1 43 (by omega) (by omega)]) w2.1 (by rcases hL.ar with q | q <;> omega)
      have hcl : Cl π3 σ4 := (km_Cs_read g1 hc).2
      have rmq : (nn π3 : Int) ≤ 56 + 1000 * ((n + 1 : Nat) : Int) ∧ (sw π3 : Int) ≤ 57000 + 9340 * ((n + 1 : Nat) : Int) + 4 * cpc π3 σ3 42 + 4 * cpc π2 σ2 43 := by
        rcases d6 with ⟨i1, i2, i3⟩ | ⟨i1, i2, i3⟩
        · clear n3 n2 hNd; omega
        · clear n3 n2 hNd; omega
      refine ⟨hcl, ⟨by omega, by omega, by omega, fun j j0 j1 => by omega⟩, ou.1, ou.2.1, ?_, ou.2.2.1, ou.2.2.2, ⟨by omega, dl', dl'.map Prod.fst, ⟨w4.keep (ext.rf _) ⟨v1 1 (by omega), v1 2 (by omega)⟩ (fun _ j => y3 _ j), w3.keep (ext.rf _) ⟨v2 1 (by omega), v2 2 (by omega)⟩ (fun _ j => y3 _ j), ?_⟩, ⟨?_, by omega, ?_, fun e he => (hD e he).keep gr⟩, ⟨?_, ?_, ?_⟩, by omega, by omega, by omega, by omega, by omega, Or.inl ⟨z5, rmq.1, ?_⟩⟩⟩
      · exact g5.gr (((s2.hx h56 a2.ar).tr hxa).tr hxb) (s4.2.1.tr txa) (fun a j ha => by rw [y3, w3e a j (by omega) (by omega), s2.2.2.1 a j (by omega) (by omega) (by omega) (by omega)]) (fun a j ha => by rw [te a j (by omega), s3.2 a j (by omega) (by omega)]) (by rw [tf 116 (by decide) (by decide) (by omega), s3.1 116 0 (by unfold xR; omega)])
      · rw [v1 1 (by omega), v2 1 (by omega)]
        intro q0 q1
        exact w5 (by omega) q1.symm
      · rw [z2 34 (by decide) (by omega), k2]; exact a34
      · exact hA.mono (fun i e i0 i1 _ hq => by rw [z3, k4 i i0 (by omega), ae]; exact hq)
      · have gg := hF.1
        unfold FNc at gg ⊢
        exact gg.mono (fun i e _ _ _ hq => by rw [y3, w3e 45 i (by omega) (by omega)]; exact hq)
      · have gg := hF.2.1
        unfold FNr at gg ⊢
        exact gg.mono (fun i e _ _ _ hq => by rw [te 96 i (by decide)]; exact hq)
      · intro f x y
        rw [te 95 f (by decide)]
        exact hF.2.2 f x y
      · rw [p42, p43]
        exact rmq.2
  · -- a fault
    obtain ⟨⟨s1, s2, s3, tb⟩, ff, alt, ⟨c1, c2, c3⟩, ⟨ds, hL⟩, hSv, rm1, rm2⟩ := ft
    obtain ⟨pl, hpl⟩ : ∃ pl, pl = fl τ2 12 0 := ⟨_, rfl⟩
    obtain ⟨v, hv⟩ : ∃ v, v = fl τ2 11 0 := ⟨_, rfl⟩
    have alt' : (fl σ2 182 1 = 0 ∧ (1 ≤ fl σ2 88 3 ∧ fl σ2 88 3 ≤ 10) ∧ pl = fl σ2 89 3) ∨ ((1 ≤ fl σ2 182 1 ∧ fl σ2 182 1 ≤ 10) ∧ pl = fl σ2 183 1) := by
      rcases alt with ⟨e1, e2⟩ | ⟨e1, e2, e3⟩
      · exact Or.inr ⟨by omega, by omega⟩
      · exact Or.inl ⟨e1, by omega, by omega⟩
    obtain ⟨σ3, y1, y2, y3, y4, y5⟩ := c_finish (N := N) (π := π2) (σ := σ2) (v := v) (pl := pl) (Or.inr alt')
    obtain ⟨τ3, z1, z2, z3, z4, z5, z6⟩ := r_finF (N := N) (τ := τ2) ⟨by omega, by omega⟩
    rw [if_neg (by omega), ← hv, ← hpl] at z4
    rw [← hv] at z1
    have hc : Cs_read N π0 σ0 = some (π2, σ3, v) := by
      have e108 : Cs_read_108 N π2 σ2 v = some (π2, σ3, v) := by
        rw [Cs_read_108, grd_t (by exact ⟨by omega, by omega⟩), if_neg (by omega), Cs_read_123, y1, Option.bind_some]
      have e88 : Cs_read_88 N π2 σ2 v = some (π2, σ3, v) := by
        rw [Cs_read_88, grd_t (by exact ⟨by omega, by omega⟩), if_neg (by omega)]; exact e108
      rw [cc, Cs_read_61]
      rcases alt with ⟨e1, e2⟩ | ⟨e1, e2, e3⟩
      · rw [grd_t (by exact ⟨by omega, by omega⟩), if_neg (by omega), e1, ← hv]; exact e88
      · rw [e1, grd_t (by decide), if_pos rfl, e2, ← hv]; exact e88
    have hr : r_read N τ0 = some (τ3, v) := by
      rw [rr, r_read_40, grd_t (by exact ⟨by omega, by omega⟩), if_neg (by omega), r_read_63, grd_t (by exact ⟨by omega, by omega⟩), if_neg (by omega), r_read_106, z1, Option.bind_some]
    refine ⟨π2, σ3, τ3, v, hc, hr, ?_⟩
    have hcl : Cl π2 σ3 := (km_Cs_read g1 hc).2
    obtain ⟨e7, e8⟩ := rm_fault (σ := σ2) (π := π2) d6 sp (by omega) (by omega)
    have e4 : fl σ3 255 0 = 1 ∧ fl σ3 256 0 = v ∧ fl σ3 257 0 = pl ∧ fl σ3 258 0 = fl τ2 64 0 := by rw [← c1]; exact y4
    have e6 : ∀ f : Nat, f ≠ 1 → f ≠ 16 → f ≠ 28 → f ≠ 48 → f ≠ 61 → f ≠ 11 → f ≠ 12 → ¬ (118 ≤ f ∧ f ≤ 120) → fl τ3 f 0 = fl τ2 f 0 := fun f e1 e2 e3 e4 e5 _ _ e8 => z2 f e1 e2 e3 e4 e5 e8
    exact ro_fault hn h' s2 s3 tb hSv hL e7 e8 y2 y3 e4 y5 e6 z3 z4 z5 z6 hcl
end RD9
