/-! a reading call begins -/
section ST9
variable {N : Nat}
/-- what the reference holds when a reading call begins -/
def BSc (τ : St) : Prop := (0 ≤ fl τ 34 0 ∧ fl τ 34 0 ≤ 40) ∧ (0 ≤ fl τ 28 0 ∧ fl τ 28 0 ≤ 3000) ∧ (0 ≤ fl τ 16 0 ∧ fl τ 16 0 + 3 * fl τ 1 0 ≤ 32300) ∧ (0 ≤ fl τ 48 0 ∧ fl τ 48 0 ≤ 102200) ∧ (0 ≤ fl τ 61 0 ∧ fl τ 61 0 ≤ 204400)
/-- between two lines -/
def RS (N : Nat) (π0 : Sh) (σ0 τ0 : St) (cA wA : Int) (dl : List (Int × Int)) (π : Sh) (σ τ : St) : Prop :=
  (SHs π ∧ KCf π0 σ0 π σ ∧ KRf τ0 τ ∧ GRW π0 σ0 τ0 π σ τ) ∧ (TKr σ τ ∧ fl σ 182 1 = 0 ∧ fl τ 11 0 = 0 ∧ fl σ 184 1 = 0) ∧ (fl σ 87 3 = fl τ 64 0 ∧ 0 ≤ fl τ 64 0 ∧ fl τ 64 0 ≤ 200 ∧ fl σ 88 3 = 0) ∧ (LD π σ 43 (dl.map Prod.fst) ∧ fl τ 36 0 = dl.length ∧ At (fun i (e : Int × Int) => el τ 77 i = e.2) 0 dl ∧ ∀ e ∈ dl, DFx N π σ τ e) ∧ (FNc σ ∧ FNr τ ∧ WTr τ) ∧ (fl τ 149 0 = fl τ0 16 0 ∧ fl τ 150 0 = fl τ0 48 0 ∧ fl τ 151 0 = fl τ0 61 0 ∧ fl τ 152 0 = fl τ0 28 0) ∧ ((dl.length : Int) ≤ fl τ0 34 0 + (fl τ 28 0 - fl τ0 28 0) ∧ 4 * (fl τ 28 0 - fl τ0 28 0) ≤ fl τ 4 0 + 1 ∧ (fl τ 3 0 ≠ 0 → 4 * (fl τ 28 0 - fl τ0 28 0) ≤ fl τ 4 0)) ∧ fl τ 16 0 + 3 * lf τ ≤ fl τ0 16 0 + 3 * (fl τ0 1 0 + 1) ∧ (nn π + 12 * lf τ ≤ cA + 2 * fl τ 64 0 ∧ sw π + 174 * lf τ ≤ wA + 7 * fl τ 64 0 + fl τ 61 0 + 4 * cpc π σ 43) ∧ (fl τ 48 0 ≤ fl τ0 48 0 + fl τ 64 0 ∧ fl τ 61 0 ≤ fl τ0 61 0 + 2 * fl τ 64 0)
theorem FNc.kc {π π' : Sh} {σ σ' : St} (h : FNc σ) (k : KCf π σ π' σ') (h56 : 56 ≤ nn π) (h43 : fl σ 1 43 < 0 ∨ 56 ≤ fl σ 1 43) : FNc σ' := by
  unfold FNc at h ⊢
  exact h.mono (fun i e _ _ _ hq => by rw [k.2.2.1 45 i (by decide) (by omega) (by decide) (by omega)]; exact hq)
theorem FNr.kr {τ τ' : St} (h : FNr τ) (k : KRf τ τ') : FNr τ' := by
  unfold FNr at h ⊢
  exact h.mono (fun i e _ _ _ hq => by rw [k.2 96 i (by decide) (by decide)]; exact hq)
theorem WTr.kr {τ τ' : St} (h : WTr τ) (k : KRf τ τ') : WTr τ' := fun f h0 h1 => by rw [k.2 95 f (by decide) (by decide)]; exact h f h0 h1
theorem LD.a56 {π : Sh} {σ : St} {x : Int} {ds : List Int} (h : LD π σ x ds) : fl σ 1 x < 0 ∨ 56 ≤ fl σ 1 x := by
  rcases h.2.2.2.1 with q | q
  · exact Or.inl q.1
  · exact Or.inr q.2.1
theorem both_start {π : Sh} {σ τ : St} {dl : List (Int × Int)} {ds0 : List Int} (hN : 3000 ≤ N) (hS : SHs π) (hT : RTp σ τ) (hB : BSc τ) (h42 : LD π σ 42 (dl.map Prod.fst)) (h43 : LD π σ 43 ds0) (hd : 0 ≤ fl σ 1 42 → fl σ 1 42 ≠ fl σ 1 43) (h34 : fl τ 34 0 = dl.length) (hA : At (fun i (e : Int × Int) => el τ 78 i = e.2) 0 dl) (hD : ∀ e ∈ dl, DFx N π σ τ e) (hF : FNc σ ∧ FNr τ ∧ WTr τ) : ∃ π' σ' τ', Cs_startReading N π σ = some (π', σ') ∧ r_begins N τ = some τ' ∧ RS N π σ τ (nn π + dl.length + 12 * (fl τ 1 0 + 1)) (sw π + 174 * (fl τ 1 0 + 1) - fl τ 61 0 - 4 * cpc π σ 43) dl π' σ' τ' ∧ (0 ≤ fl σ' 1 42 → fl σ' 1 42 ≠ fl σ' 1 43) ∧ fl τ' 38 0 = 0 ∧ fl τ' 64 0 = 0 ∧ fl τ' 28 0 = fl τ 28 0 ∧ fl τ' 16 0 = fl τ 16 0 := by
  have h56 := hS.1
  obtain ⟨b1, b2, b3, b4, b5⟩ := id hB
  obtain ⟨π1, σ1, p1, p2, p3, p4, p5, p6, p7⟩ := c_copy (N := N) (by omega) (by decide : (42 : Int) ≠ 43) h56 h42 h43 hd
  have kc1 : KCf π σ π1 σ1 := (KCf.rf π σ).ls p2
  have e1 := p2.1.1
  obtain ⟨σ2, hσ2⟩ : ∃ σ2, σ2 = sf (sf (sf (sf σ1 182 1 0) 183 1 0) 184 1 0) 187 1 0 := ⟨_, rfl⟩
  have f2 : ∀ (f : Nat) (i : Int), ¬ (i = 1 ∧ 182 ≤ f ∧ f ≤ 187) → fl σ2 f i = fl σ1 f i := fun f i h => by rw [hσ2, fl_sf, if_neg (by omega), fl_sf, if_neg (by omega), fl_sf, if_neg (by omega), fl_sf, if_neg (by omega)]
  have g2 : ∀ a j : Int, el σ2 a j = el σ1 a j := fun a j => by rw [hσ2]; rfl
  have kc2 : KCf π σ π1 σ2 := kc1.step (ext.rf _) (fun f i _ hx => f2 f i (by unfold xC at hx; omega)) (fun a j _ _ _ _ => g2 a j) (Or.inl (f2 1 43 (by omega)))
  -- the reference
  obtain ⟨τ1, hτ1⟩ : ∃ τ1, τ1 = sf (sf (sf (sf (sf (sf (sf (sf (sf τ 11 0 0) 12 0 (-1)) 64 0 0) 38 0 0) 149 0 (fl τ 16 0)) 150 0 (fl τ 48 0)) 151 0 (fl τ 61 0)) 152 0 (fl τ 28 0)) 36 0 (fl τ 34 0) := ⟨_, rfl⟩
  have kr1 : KRf τ τ1 := by
    rw [hτ1]
    exact ((((((((((KRf.rf τ).sf 11 0 0 (by unfold xR; omega)).sf 12 0 (-1) (by unfold xR; omega)).sf 64 0 0 (by unfold xR; omega)).sf 38 0 0 (by unfold xR; omega)).sf 149 0 _ (by unfold xR; omega)).sf 150 0 _ (by unfold xR; omega)).sf 151 0 _ (by unfold xR; omega)).sf 152 0 _ (by unfold xR; omega)).sf 36 0 _ (by unfold xR; omega))
  have t34 : fl τ1 34 0 = dl.length := (kr1.1 34 0 (by unfold xR; omega)).trans h34
  have l40 : (dl.length : Int) ≤ 40 := by omega
  obtain ⟨τ2, q1, q2, q3, q4⟩ := rb_lp (N := N) (dl.length) N τ1 0 dl.length (by omega) (by omega) (by omega) (by omega) l40 t34
  have kr2 : KRf τ τ2 := kr1.tr ⟨fun f i _ => q2 f i, fun a j _ _ => q3 a j (by omega)⟩
  -- both look
  have e181 : fl σ2 181 1 = fl σ 181 1 := kc2.2.1 181 1 (by omega) (by unfold xC; omega)
  have a43 := h43.a56
  have hT2 : RTp σ2 τ2 := hT.stl e181 (kr2.1 1 0 (by unfold xR; omega)) (fun j => kc2.2.2.1 2 j (by decide) (by omega) (by decide) (by omega)) (fun j => kr2.2 97 j (by decide) (by decide))
  obtain ⟨σ3, τ3, r1, r2, r3, r4, r5, r6, -⟩ := both_look (N := N) (π := π1) hN hT2 (k := 0) (by omega) (by have := hT2.2.1; omega)
  have kc3 : KCf π σ π1 σ3 := kc2.sc r3
  have kr3 : KRf τ τ3 := kr2.sc r4
  obtain ⟨σ4, hσ4⟩ : ∃ σ4, σ4 = sf (sf (sf σ3 87 3 0) 88 3 0) 89 3 0 := ⟨_, rfl⟩
  have f4 : ∀ (f : Nat) (i : Int), ¬ (i = 3 ∧ 87 ≤ f ∧ f ≤ 89) → fl σ4 f i = fl σ3 f i := fun f i h => by rw [hσ4, fl_sf, if_neg (by omega), fl_sf, if_neg (by omega), fl_sf, if_neg (by omega)]
  have g4 : ∀ a j : Int, el σ4 a j = el σ3 a j := fun a j => by rw [hσ4]; rfl
  have kc4 : KCf π σ π1 σ4 := kc3.step (ext.rf _) (fun f i _ hx => f4 f i (by unfold xC at hx; omega)) (fun a j _ _ _ _ => g4 a j) (Or.inl (f4 1 43 (by omega)))
  have hS1 : SHs π1 := hS.ext kc4.1
  -- fields of the reference, at the end
  have u : ∀ f : Nat, ¬ (3 ≤ f ∧ f ≤ 10) → fl τ3 f 0 = fl τ1 f 0 := fun f hf => (r4.1 f 0 hf).trans (q2 f 0)
  have v28 : fl τ3 28 0 = fl τ 28 0 := by rw [u 28 (by omega), hτ1]; rfl
  have v16 : fl τ3 16 0 = fl τ 16 0 := by rw [u 16 (by omega), hτ1]; rfl
  have v48 : fl τ3 48 0 = fl τ 48 0 := by rw [u 48 (by omega), hτ1]; rfl
  have v61 : fl τ3 61 0 = fl τ 61 0 := by rw [u 61 (by omega), hτ1]; rfl
  have v11 : fl τ3 11 0 = 0 := by rw [u 11 (by omega), hτ1]; rfl
  have v64 : fl τ3 64 0 = 0 := by rw [u 64 (by omega), hτ1]; rfl
  have v36 : fl τ3 36 0 = fl τ 34 0 := by rw [u 36 (by omega), hτ1]; rfl
  have v149 : fl τ3 149 0 = fl τ 16 0 := by rw [u 149 (by omega), hτ1]; rfl
  have v150 : fl τ3 150 0 = fl τ 48 0 := by rw [u 150 (by omega), hτ1]; rfl
  have v151 : fl τ3 151 0 = fl τ 61 0 := by rw [u 151 (by omega), hτ1]; rfl
  have v152 : fl τ3 152 0 = fl τ 28 0 := by rw [u 152 (by omega), hτ1]; rfl
  have v1 : fl τ3 1 0 = fl τ 1 0 := kr3.1 1 0 (by unfold xR; omega)
  have te : ∀ a j : Int, a ≠ 77 → el τ3 a j = el τ a j := fun a j ha => by rw [r4.2 a j, q3 a j (by omega), hτ1]; rfl
  have grw : GRW π σ τ π1 σ4 τ3 := ⟨kc4.hx h56 h43.ar, TX.eq v48 v61 (fun a j x y => te a j (by omega)), ⟨by omega, by omega⟩, by omega, fun a v x y _ => te a v (by omega), fun a v x y _ => te a v (by omega)⟩
  have tk : TKr σ4 τ3 := r5.cg (fun f hf => f4 f 1 (by omega)) (fun j => g4 2 j) (fun _ _ => rfl) (fun _ => rfl)
  have lfb : lf τ3 ≤ fl τ 1 0 + 1 := by unfold lf; have := r5.2.2.2.1.1; omega
  have s43 : ∀ f : Nat, f ≤ 2 → fl σ4 f 43 = fl σ1 f 43 := fun f hf => by rw [f4 f 43 (by omega), r3.1 f 43 (by omega), f2 f 43 (by omega)]
  have es : ∀ a j : Int, el σ4 a j = el σ1 a j := fun a j => by rw [g4, r3.2, g2]
  have ld : LD π1 σ4 43 (dl.map Prod.fst) := p4.keep (ext.rf _) ⟨s43 1 (by omega), s43 2 (by omega)⟩ (fun _ j => es _ j)
  have cpe : cpc π1 σ4 43 = cpc π1 σ1 43 := by unfold cpc; rw [s43 1 (by omega)]
  have e182 : fl σ4 182 1 = 0 ∧ fl σ4 184 1 = 0 := by
    rw [f4 182 1 (by omega), f4 184 1 (by omega), r3.1 182 1 (by omega), r3.1 184 1 (by omega), hσ2]
    exact ⟨rfl, rfl⟩
  have e87 : fl σ4 87 3 = 0 ∧ fl σ4 88 3 = 0 := by rw [hσ4]; exact ⟨rfl, rfl⟩
  have e142 : fl σ4 1 42 = fl σ1 1 42 := by rw [f4 1 42 (by omega), r3.1 1 42 (by omega), f2 1 42 (by omega)]
  have lm : (dl.map Prod.fst).length = dl.length := List.length_map ..
  rw [lm] at p6
  refine ⟨π1, σ4, τ3, ?_, ?_, ⟨⟨hS1, kc4, kr3, grw⟩, ⟨tk, e182.1, v11, e182.2⟩, ⟨by rw [e87.1, v64], by omega, by omega, e87.2⟩, ⟨ld, by rw [v36]; exact h34, ?_, fun e he => (hD e he).keep grw⟩, ⟨hF.1.kc kc4 h56 a43, hF.2.1.kr kr3, hF.2.2.kr kr3⟩, ⟨v149, v150, v151, v152⟩, ⟨by omega, ?_, fun _ => ?_⟩, ?_, ⟨?_, ?_⟩, by omega, by omega⟩, ?_, by rw [u 38 (by omega), hτ1]; rfl, v64, v28, v16⟩
  · rw [Cs_startReading, p1, Option.bind_some]
    simp only
    rw [Cs_startReading_11, Sc_restart, bnd, ← hσ2, Sc_advance, show fl σ2 187 1 = 0 by rw [hσ2]; rfl, r1, Option.bind_some, Option.bind_some, Mk_restart, ← hσ4, Option.bind_some]
  · rw [r_begins, ← hτ1, q1, r2, Option.bind_some]
  · exact hA.mono (fun i e i0 i1 _ hq => by rw [r4.2, q4 i i0 (by omega), hτ1]; exact hq)
  · have := r5.2.2.2.1.1; omega
  · have := r5.2.2.2.1.1; omega
  · omega
  · omega
  · rw [cpe]; omega
  · intro a
    rw [e142] at a ⊢
    rw [s43 1 (by omega)]
    exact p5 a
end ST9
