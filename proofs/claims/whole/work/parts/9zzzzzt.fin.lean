/-! a reading call ends -/
section FI9
variable {N n : Nat}
theorem c_finish {π : Sh} {σ : St} {v pl : Int} (h : (fl σ 182 1 = 0 ∧ fl σ 88 3 = 0 ∧ pl = -1) ∨ (fl σ 182 1 = 0 ∧ (1 ≤ fl σ 88 3 ∧ fl σ 88 3 ≤ 10) ∧ pl = fl σ 89 3) ∨ ((1 ≤ fl σ 182 1 ∧ fl σ 182 1 ≤ 10) ∧ pl = fl σ 183 1)) : ∃ σ', Cs_finishReading N π σ v = some (σ', v) ∧ (∀ (f : Nat) (i : Int), ¬ (i = 0 ∧ 255 ≤ f ∧ f ≤ 258) → ¬ (i = 1 ∧ f = 181) → fl σ' f i = fl σ f i) ∧ (∀ a j : Int, el σ' a j = el σ a j) ∧ (fl σ' 255 0 = 1 ∧ fl σ' 256 0 = v ∧ fl σ' 257 0 = pl ∧ fl σ' 258 0 = fl σ 87 3) ∧ fl σ' 181 1 = 0 := by
  have w : ∀ σ1 : St, (∀ (f : Nat) (i : Int), ¬ (i = 0 ∧ 255 ≤ f ∧ f ≤ 257) → fl σ1 f i = fl σ f i) → (∀ a j : Int, el σ1 a j = el σ a j) → (fl σ1 255 0 = 1 ∧ fl σ1 256 0 = v ∧ fl σ1 257 0 = pl) → ∃ σ', Cs_finishReading_60 N π σ1 v = some (σ', v) ∧ (∀ (f : Nat) (i : Int), ¬ (i = 0 ∧ 255 ≤ f ∧ f ≤ 258) → ¬ (i = 1 ∧ f = 181) → fl σ' f i = fl σ f i) ∧ (∀ a j : Int, el σ' a j = el σ a j) ∧ (fl σ' 255 0 = 1 ∧ fl σ' 256 0 = v ∧ fl σ' 257 0 = pl ∧ fl σ' 258 0 = fl σ 87 3) ∧ fl σ' 181 1 = 0 := fun σ1 g1 g2 g3 => by
    refine ⟨sf (sf σ1 258 0 (fl σ1 87 3)) 181 1 0, rfl, fun f i x y => ?_, fun a j => ?_, ⟨?_, ?_, ?_, ?_⟩, fl_sfs _ _ _ _⟩
    · rw [fl_sf, if_neg (by omega), fl_sf, if_neg (by omega), g1 f i (by omega)]
    · exact g2 a j
    · rw [fl_sfn _ _ _ _ (by decide), fl_sfn _ _ _ _ (by decide)]; exact g3.1
    · rw [fl_sfn _ _ _ _ (by decide), fl_sfn _ _ _ _ (by decide)]; exact g3.2.1
    · rw [fl_sfn _ _ _ _ (by decide), fl_sfn _ _ _ _ (by decide)]; exact g3.2.2
    · rw [fl_sfn _ _ _ _ (by decide), fl_sfs]; exact g1 87 3 (by omega)
  rcases h with ⟨h1, h2, rfl⟩ | ⟨h1, h2, rfl⟩ | ⟨h1, rfl⟩
  · obtain ⟨σ', q1, q2⟩ := w (sf (sf (sf σ 255 0 1) 256 0 v) 257 0 (-1)) (fun f i x => by rw [fl_sf, if_neg (by omega), fl_sf, if_neg (by omega), fl_sf, if_neg (by omega)]) (fun _ _ => rfl) ⟨rfl, rfl, rfl⟩
    exact ⟨σ', by rw [Cs_finishReading, h1, grd_t (by decide), if_pos rfl, h2, grd_t (by decide), if_pos rfl]; exact q1, q2⟩
  · obtain ⟨σ', q1, q2⟩ := w (sf (sf (sf (sf σ 255 0 1) 256 0 v) 257 0 (-1)) 257 0 (fl σ 89 3)) (fun f i x => by rw [fl_sf, if_neg (by omega), fl_sf, if_neg (by omega), fl_sf, if_neg (by omega), fl_sf, if_neg (by omega)]) (fun _ _ => rfl) ⟨rfl, rfl, rfl⟩
    exact ⟨σ', by rw [Cs_finishReading, h1, grd_t (by decide), if_pos rfl, grd_t (by exact ⟨by omega, by omega⟩), if_neg (by omega)]; exact q1, q2⟩
  · obtain ⟨σ', q1, q2⟩ := w (sf (sf (sf (sf σ 255 0 1) 256 0 v) 257 0 (-1)) 257 0 (fl σ 183 1)) (fun f i x => by rw [fl_sf, if_neg (by omega), fl_sf, if_neg (by omega), fl_sf, if_neg (by omega), fl_sf, if_neg (by omega)]) (fun _ _ => rfl) ⟨rfl, rfl, rfl⟩
    exact ⟨σ', by rw [Cs_finishReading, grd_t (by exact ⟨by omega, by omega⟩), if_neg (by omega)]; exact q1, q2⟩
theorem r_fin0 {τ : St} (h : fl τ 11 0 = 0) : ∃ τ', r_over N τ = some (τ', 0) ∧ (∀ f : Nat, f ≠ 1 → ¬ (118 ≤ f ∧ f ≤ 120) → fl τ' f 0 = fl τ f 0) ∧ (∀ a j : Int, el τ' a j = el τ a j) ∧ (fl τ' 118 0 = 0 ∧ fl τ' 119 0 = -1 ∧ fl τ' 120 0 = fl τ 64 0) ∧ fl τ' 1 0 = 0 := by
  refine ⟨sf (sf (sf (sf τ 118 0 0) 119 0 (-1)) 120 0 (fl τ 64 0)) 1 0 0, ?_, fun f x y => by rw [fl_sfn _ _ _ _ (by omega), fl_sfn _ _ _ _ (by omega), fl_sfn _ _ _ _ (by omega), fl_sfn _ _ _ _ (by omega)], fun _ _ => rfl, ⟨rfl, rfl, rfl⟩, rfl⟩
  have e : fl (sf τ 118 0 0) 11 0 = 0 := by rw [fl_sfn _ _ _ _ (by decide)]; exact h
  rw [r_over, h, grd_t (by decide), if_pos rfl, r_over_25, r_over_33, e, grd_t (by decide), if_pos rfl]
  rfl
theorem r_finF {τ : St} (h : 1 ≤ fl τ 11 0 ∧ fl τ 11 0 ≤ 11) : ∃ τ', r_over N τ = some (τ', fl τ 11 0) ∧ (∀ f : Nat, f ≠ 1 → f ≠ 16 → f ≠ 28 → f ≠ 48 → f ≠ 61 → ¬ (118 ≤ f ∧ f ≤ 120) → fl τ' f 0 = fl τ f 0) ∧ (∀ a j : Int, el τ' a j = el τ a j) ∧ (fl τ' 118 0 = fl τ 11 0 ∧ fl τ' 119 0 = (if fl τ 11 0 = 11 then -1 else fl τ 12 0) ∧ fl τ' 120 0 = fl τ 64 0) ∧ fl τ' 1 0 = 0 ∧ (fl τ' 16 0 = fl τ 149 0 ∧ fl τ' 48 0 = fl τ 150 0 ∧ fl τ' 61 0 = fl τ 151 0 ∧ fl τ' 28 0 = fl τ 152 0) := by
  obtain ⟨pl, hpl⟩ : ∃ pl, pl = (if fl τ 11 0 = 11 then -1 else fl τ 12 0) := ⟨_, rfl⟩
  obtain ⟨τ1, hτ1⟩ : ∃ τ1, τ1 = sf τ 118 0 (fl τ 11 0) := ⟨_, rfl⟩
  have e : ∀ f : Nat, f ≠ 118 → fl τ1 f 0 = fl τ f 0 := fun f hf => by rw [hτ1, fl_sfn _ _ _ _ hf]
  have e118 : fl τ1 118 0 = fl τ 11 0 := by rw [hτ1, fl_sfs]
  have ee : ∀ a j : Int, el τ1 a j = el τ a j := fun a j => by rw [hτ1]; rfl
  rw [← hpl]
  obtain ⟨τ2, hτ2⟩ : ∃ τ2, τ2 = sf (sf (sf (sf (sf (sf (sf τ1 119 0 pl) 120 0 (fl τ1 64 0)) 1 0 0) 16 0 (fl τ1 149 0)) 48 0 (fl τ1 150 0)) 61 0 (fl τ1 151 0)) 28 0 (fl τ1 152 0) := ⟨_, rfl⟩
  have g : ∀ f : Nat, fl τ2 f 0 = if f = 28 then fl τ1 152 0 else if f = 61 then fl τ1 151 0 else if f = 48 then fl τ1 150 0 else if f = 16 then fl τ1 149 0 else if f = 1 then 0 else if f = 120 then fl τ1 64 0 else if f = 119 then pl else fl τ1 f 0 := fun f => by
    rw [hτ2]
    simp only [fl_sf, and_true]
  refine ⟨τ2, ?_, fun f x1 x2 x3 x4 x5 x6 => ?_, fun a j => by rw [hτ2]; exact ee a j, ⟨?_, ?_, ?_⟩, ?_, ?_, ?_, ?_, ?_⟩
  · have key : r_over_33 N τ1 pl = some (τ2, fl τ 11 0) := by
      rw [r_over_33, e 11 (by decide), grd_t (by exact ⟨by omega, by omega⟩), if_neg (by omega), hτ2]
    rw [r_over, grd_t (by exact ⟨by omega, by omega⟩), if_neg (by omega), ← hτ1]
    by_cases c : fl τ 11 0 = 11
    · rw [if_pos c, r_over_25]
      rw [if_pos c] at hpl
      rw [← hpl]; exact key
    · rw [if_neg c]
      rw [if_neg c] at hpl
      rw [← hpl]; exact key
  · rw [g, if_neg x3, if_neg x5, if_neg x4, if_neg x2, if_neg x1, if_neg (by omega), if_neg (by omega), e f (by omega)]
  · rw [g]; exact e118
  · rw [g]; rfl
  · rw [g]; exact e 64 (by decide)
  · rw [g]; rfl
  · rw [g]; exact e 149 (by decide)
  · rw [g]; exact e 150 (by decide)
  · rw [g]; exact e 151 (by decide)
  · rw [g]; exact e 152 (by decide)
/-- what holds when a reading call begins -/
theorem DRn.bs {π : Sh} {σ τ : St} (hn : n < 512) (h : DRn N n π σ τ) : BSc τ := by
  obtain ⟨-, dl, ds0, -, ⟨b1, b2, -⟩, -, d1, d2, d3, d4, d5, -⟩ := h
  exact ⟨⟨by omega, by omega⟩, ⟨d1.1, by omega⟩, ⟨d2.1, by omega⟩, ⟨d3.1, by omega⟩, d4.1, by omega⟩
/-- tracks of both stay -/
theorem RTk.gr {π π' : Sh} {σ τ σ' τ' : St} (h : RTk PRn π σ τ) (hx : HX π σ π' σ') (ht : TX τ τ') (h1 : ∀ a j : Int, 51 ≤ a ∧ a ≤ 53 → el σ' a j = el σ a j) (h2 : ∀ a j : Int, 27 ≤ a ∧ a ≤ 28 → el τ' a j = el τ a j) (h3 : fl τ' 116 0 = fl τ 116 0) : RTk PRn π' σ' τ' := fun t t0 t8 => by
  obtain ⟨k1, k2⟩ := h t t0 t8
  rw [h1 51 t (by omega), h1 52 t (by omega), h1 53 t (by omega), h2 27 t (by omega), h2 28 t (by omega), h3]
  refine ⟨k1.grow hx ht, ?_⟩
  rcases k2 with q | ⟨q1, q2, q3⟩
  · exact Or.inl q
  · exact Or.inr ⟨q1, q2.grow hx ht, q3⟩
/-- a call that met a fault leaves all as it was -/
theorem ro_fault {π0 π : Sh} {σ0 τ0 σ τ σ' τ' : St} {v pl ct : Int} {ds : List Int} (hn : n < 512) (h : RO PRn (DRn N) RWd n π0 σ0 τ0) (kc : KCf π0 σ0 π σ) (kr : KRf τ0 τ) (tb : TBl τ0 τ) (sv : fl τ 149 0 = fl τ0 16 0 ∧ fl τ 150 0 = fl τ0 48 0 ∧ fl τ 151 0 = fl τ0 61 0 ∧ fl τ 152 0 = fl τ0 28 0) (l43 : LD π σ 43 ds) (rm1 : (nn π : Int) ≤ 56 + 1000 * (n + 1)) (rm2 : (sw π : Int) ≤ 57000 + 9340 * (n + 1) + 4 * cpc π0 σ0 42 + 4 * cpc π σ 43) (hC : ∀ (f : Nat) (i : Int), ¬ (i = 0 ∧ 255 ≤ f ∧ f ≤ 258) → ¬ (i = 1 ∧ f = 181) → fl σ' f i = fl σ f i) (hE : ∀ a j : Int, el σ' a j = el σ a j) (hT : fl σ' 255 0 = 1 ∧ fl σ' 256 0 = v ∧ fl σ' 257 0 = pl ∧ fl σ' 258 0 = ct) (h181 : fl σ' 181 1 = 0) (hR : ∀ f : Nat, f ≠ 1 → f ≠ 16 → f ≠ 28 → f ≠ 48 → f ≠ 61 → f ≠ 11 → f ≠ 12 → ¬ (118 ≤ f ∧ f ≤ 120) → fl τ' f 0 = fl τ f 0) (hG : ∀ a j : Int, el τ' a j = el τ a j) (hT' : fl τ' 118 0 = v ∧ fl τ' 119 0 = pl ∧ fl τ' 120 0 = ct) (h1 : fl τ' 1 0 = 0) (rb : fl τ' 16 0 = fl τ 149 0 ∧ fl τ' 48 0 = fl τ 150 0 ∧ fl τ' 61 0 = fl τ 151 0 ∧ fl τ' 28 0 = fl τ 152 0) (hCl : Cl π σ') : RO PRn (DRn N) RWd (n + 1) π σ' τ' := by
  obtain ⟨g1, g2, g3, g4, g5, g6, g7, g8⟩ := h
  have h56 := g1.1.1
  obtain ⟨-, dl, ds0, ⟨a1, a2, a3⟩, ⟨b1, b2, b3, b4⟩, ⟨c1, c2, c3⟩, d1, d2, d3, d4, d5, d6⟩ := g8
  have x42 := a1.a56
  have x43 := a2.a56
  have l42 := a1.ar
  have hx1 := kc.hx h56 a2.ar
  have hx2 : HX π σ π σ' := HX.all (ext.rf _) (fun f i hf _ => hC f i (by unfold inF at hf; omega) (by unfold inF at hf; omega)) (fun a j _ _ => hE a j)
  have hx := hx1.tr hx2
  have tx : TX τ0 τ' := ⟨by omega, by omega, fun a j x y z => by rw [hG]; exact tb.1 a j x y z, fun a j x y => by rw [hG]; exact tb.2.1 a j x y⟩
  have gr : GRW π0 σ0 τ0 π σ' τ' := ⟨hx, tx, ⟨by omega, by omega⟩, by omega, fun a j x y z => by rw [hG]; exact tb.2.2.1 a j x y z, fun a j x y z => by rw [hG]; exact tb.2.2.2 a j x y z⟩
  have cE : ∀ a j : Int, 0 ≤ a → a < nn π0 → ¬ (5 ≤ a ∧ a ≤ 8) → a ≠ fl σ0 1 43 → el σ' a j = el σ0 a j := fun a j x0 x y z => by rw [hE, kc.2.2.1 a j x0 x y z]
  have cF : ∀ (f : Nat) (i : Int), i < nn π0 → ¬ xC f i → ¬ (i = 0 ∧ 255 ≤ f ∧ f ≤ 258) → ¬ (i = 1 ∧ f = 181) → fl σ' f i = fl σ0 f i := fun f i x y z w => by rw [hC f i z w, kc.2.1 f i x y]
  have n42 : fl σ' 1 42 = fl σ0 1 42 := cF 1 42 (by omega) (by unfold xC; omega) (by omega) (by omega)
  have n43 : fl σ' 1 43 = fl σ 1 43 := hC 1 43 (by omega) (by omega)
  have ou := (OUr.kf (n := n) ⟨g3, g4, g6, g7⟩ h56 x43 kc kr).told hC hE (fun f x y => hR f (by omega) (by omega) (by omega) (by omega) (by omega) (by omega) (by omega) y) (fun a j _ => hG a j) hT hT'
  have p42 : cpc π σ' 42 = cpc π0 σ0 42 := cpc_eq n42 kc.1 (by rcases l42 with q | q <;> omega)
  have p43 : cpc π σ' 43 = cpc π σ 43 := by unfold cpc; rw [n43]
  have f34 : fl τ' 34 0 = fl τ0 34 0 := by rw [hR 34 (by decide) (by decide) (by decide) (by decide) (by decide) (by decide) (by decide) (by omega), kr.1 34 0 (by unfold xR; omega)]
  have ext1 := kc.1.1
  refine ⟨hCl, ⟨by omega, by omega, by omega, fun j j0 j1 => by omega⟩, ou.1, ou.2.1, ?_, ou.2.2.1, ou.2.2.2, ⟨by omega, dl, ds, ⟨?_, ?_, ?_⟩, ⟨by omega, b2, ?_, fun e he => (b4 e he).keep gr⟩, ⟨?_, ?_, ?_⟩, by omega, by omega, by omega, by omega, by omega, Or.inl ⟨h1, by omega, by rw [p42, p43]; omega⟩⟩⟩
  · exact g5.gr hx tx (fun a j ha => cE a j (by omega) (by omega) (by omega) (by omega)) (fun a j ha => by rw [hG, kr.2 a j (by omega) (by omega)]) (by rw [hR 116 (by decide) (by decide) (by decide) (by decide) (by decide) (by decide) (by decide) (by omega), kr.1 116 0 (by unfold xR; omega)])
  · exact a1.keep kc.1 ⟨n42, cF 2 42 (by omega) (by unfold xC; omega) (by omega) (by omega)⟩ (fun h0 j => cE _ j h0 (by rcases l42 with q | q <;> omega) (by omega) (a3 h0))
  · exact l43.keep (ext.rf _) ⟨n43, hC 2 43 (by omega) (by omega)⟩ (fun _ j => hE _ j)
  · intro h0
    rw [n42] at h0 ⊢
    rw [n43]
    rcases kc.2.2.2 with q | q
    · rw [q]; exact a3 h0
    · rcases l42 with w | w <;> omega
  · exact b3.mono (fun i e _ _ _ hq => by rw [hG, kr.2 78 i (by decide) (by decide)]; exact hq)
  · unfold FNc at c1 ⊢
    exact c1.mono (fun i e _ _ _ hq => by rw [cE 45 i (by decide) (by omega) (by decide) (by omega)]; exact hq)
  · unfold FNr at c2 ⊢
    exact c2.mono (fun i e _ _ _ hq => by rw [hG, kr.2 96 i (by decide) (by decide)]; exact hq)
  · intro f x y
    rw [hG, kr.2 95 f (by decide) (by decide)]
    exact c3 f x y
theorem rm_end {π0 π : Sh} {σ0 τ0 σ : St} (h : RMq n π0 σ0 τ0) (h1 : (nn π : Int) ≤ nn π0 + 12 * fl τ0 1 0 + 500) (h2 : (sw π : Int) + 4 * cpc π0 σ0 43 ≤ sw π0 + 174 * fl τ0 1 0 + 3000 + 4 * cpc π σ 43) : (nn π : Int) ≤ 56 + 1000 * (n + 1) ∧ (sw π : Int) ≤ 57000 + 9340 * (n + 1) + 4 * cpc π0 σ0 42 + 4 * cpc π σ 43 := by
  rcases h with ⟨a, b, c⟩ | ⟨a, b, c⟩
  · omega
  · omega
theorem rm_fault {π0 π : Sh} {σ0 τ0 σ : St} (h : RMq n π0 σ0 τ0) (hs : 1 ≤ fl τ0 1 0) (h1 : (nn π : Int) ≤ nn π0 + 12 * fl τ0 1 0 + 1740) (h2 : (sw π : Int) + 4 * cpc π0 σ0 43 ≤ sw π0 + 174 * fl τ0 1 0 + 15190 + 4 * cpc π σ 43) : (nn π : Int) ≤ 56 + 1000 * (n + 1) ∧ (sw π : Int) ≤ 57000 + 9340 * (n + 1) + 4 * cpc π0 σ0 42 + 4 * cpc π σ 43 := by
  rcases h with ⟨a, b, c⟩ | ⟨a, b, c⟩
  · omega
  · omega
end FI9
