/-! definitions at rest; what a call does not touch -/
section DN9
/-- room of the class, by calls -/
def RMq (n : Nat) (π : Sh) (σ τ : St) : Prop := (fl τ 1 0 = 0 ∧ (nn π : Int) ≤ 56 + 1000 * n ∧ (sw π : Int) ≤ 57000 + 9340 * n + 4 * cpc π σ 42 + 4 * cpc π σ 43) ∨ (1 ≤ fl τ 1 0 ∧ (nn π : Int) + 12 * fl τ 1 0 + 760 ≤ 56 + 1000 * n ∧ (sw π : Int) + 174 * fl τ 1 0 + 5860 ≤ 57000 + 9340 * n + 4 * cpc π σ 42 + 4 * cpc π σ 43)
def DRn (N : Nat) : DRt := fun n π σ τ => n ≤ 512 ∧ ∃ (dl : List (Int × Int)) (ds0 : List Int), (LD π σ 42 (dl.map Prod.fst) ∧ LD π σ 43 ds0 ∧ (0 ≤ fl σ 1 42 → fl σ 1 42 ≠ fl σ 1 43)) ∧ (fl τ 34 0 = dl.length ∧ dl.length ≤ 40 ∧ At (fun i (e : Int × Int) => el τ 78 i = e.2) 0 dl ∧ ∀ e ∈ dl, DFx N π σ τ e) ∧ (FNc σ ∧ FNr τ ∧ WTr τ) ∧ (0 ≤ fl τ 28 0 ∧ 4 * fl τ 28 0 + fl τ 1 0 ≤ 21 * n) ∧ (0 ≤ fl τ 16 0 ∧ fl τ 16 0 + 3 * fl τ 1 0 ≤ 63 * n) ∧ (0 ≤ fl τ 48 0 ∧ fl τ 48 0 ≤ 200 * n) ∧ (0 ≤ fl τ 61 0 ∧ fl τ 61 0 ≤ 400 * n) ∧ 0 ≤ fl τ 1 0 ∧ RMq n π σ τ
theorem DRn.mv {N n : Nat} {π : Sh} {σ τ σ' τ' : St} (hn : n < 512) (hC : SameC σ σ') (hR : SameR τ τ') (hz : 0 ≤ fl τ' 1 0 ∧ fl τ' 1 0 ≤ fl τ 1 0 + 20) (h : DRn N n π σ τ) : DRn N (n + 1) π σ' τ' := by
  obtain ⟨-, dl, ds0, ⟨a1, a2, a3⟩, ⟨b1, b2, b3, b4⟩, ⟨c1, c2, c3⟩, d1, d2, d3, d4, d5, d6⟩ := h
  have f1 : ∀ (f : Nat) (i : Int), f < 40 → fl σ' f i = fl σ f i := fun f i hf => hC.1 f i (by unfold inF; omega)
  have e28 := hR.1 28 (by unfold inR; omega)
  have e16 := hR.1 16 (by unfold inR; omega)
  have e34 := hR.1 34 (by unfold inR; omega)
  have e48 := hR.1 48 (by unfold inR; omega)
  have e61 := hR.1 61 (by unfold inR; omega)
  have gr : GRW π σ τ π σ' τ' := ⟨HX.of hC, TX.of hR, ⟨by omega, by omega⟩, by omega, fun a v x y _ => hR.2 a v (by unfold inA; omega), fun a v x y _ => hR.2 a v (by unfold inA; omega)⟩
  have x42 := a1.a56
  have x43 := a2.a56
  refine ⟨by omega, dl, ds0, ⟨a1.keep (ext.rf _) ⟨f1 1 42 (by omega), f1 2 42 (by omega)⟩ (fun h0 j => hC.2 _ j (by omega)), a2.keep (ext.rf _) ⟨f1 1 43 (by omega), f1 2 43 (by omega)⟩ (fun h0 j => hC.2 _ j (by omega)), by rw [f1 1 42 (by omega), f1 1 43 (by omega)]; exact a3⟩, ⟨by omega, b2, b3.mono (fun i e _ _ _ hq => by rw [hR.2 78 i (by unfold inA; omega)]; exact hq), fun e he => (b4 e he).keep gr⟩, ⟨?_, ?_, ?_⟩, by omega, by omega, by omega, by omega, hz.1, ?_⟩
  · unfold FNc at c1 ⊢
    exact c1.mono (fun i e _ _ _ hq => by rw [hC.2 45 i (by omega)]; exact hq)
  · unfold FNr at c2 ⊢
    exact c2.mono (fun i e _ _ _ hq => by rw [hR.2 96 i (by unfold inA; omega)]; exact hq)
  · intro f x y
    rw [hR.2 95 f (by unfold inA; omega)]
    exact c3 f x y
  · have p42 : cpc π σ' 42 = cpc π σ 42 := by unfold cpc; rw [f1 1 42 (by omega)]
    have p43 : cpc π σ' 43 = cpc π σ 43 := by unfold cpc; rw [f1 1 43 (by omega)]
    unfold RMq at d6 ⊢
    rw [p42, p43]
    by_cases q : fl τ' 1 0 = 0
    · left; omega
    · right; omega
theorem inn_n {N : Nat} : Inn PRn (DRn N) := by
  refine ⟨fun π σ τ σ' τ' r p h1 h2 h3 => h3.same h1 h2, fun n π σ τ σ' τ' h1 h2 h3 h4 h5 => DRn.mv h1 h2 h3 h4 h5, fun n π σ τ hn h => DRn.mv hn (SameC.rf _) (SameR.rf _) ⟨?_, by omega⟩ h, fun π σ τ => Or.inl ⟨rfl, rfl⟩, fun π σ τ r p h => ?_, fun n π σ τ h => ?_⟩
  · obtain ⟨-, dl, ds0, -, -, -, -, -, -, -, h, -⟩ := h
    exact h
  · exact h.b
  · obtain ⟨h0, dl, ds0, ⟨a1, a2, a3⟩, ⟨b1, b2, b3, b4⟩, -, d1, d2, d3, d4, d5, d6⟩ := h
    have p42 := a1.cp
    have p43 := a2.cp
    have l := a1.2.1
    have lm : (dl.map Prod.fst).length = dl.length := List.length_map ..
    refine ⟨?_, ?_, by rw [l, lm]; exact b1.symm, by omega, by omega⟩
    · unfold RMq at d6
      omega
    · unfold RMq at d6
      omega
/-- what is kept of the rest -/
def OUr (n : Nat) (σ τ : St) : Prop := RTm n σ τ ∧ RMs σ τ ∧ RKa RWd σ τ ∧ RKh RWd σ τ
theorem OUr.mv {n : Nat} {σ τ σ' τ' : St} (h : OUr n σ τ) (hf : ∀ (f : Nat) (i : Int), (i = 0 ∧ 253 ≤ f ∧ f ≤ 258) ∨ (i = 9 ∧ f = 161) ∨ (i = 10 ∧ (f = 52 ∨ f = 53)) ∨ ((i = 24 ∨ i = 33) ∧ f = 68) → fl σ' f i = fl σ f i) (he : ∀ a j : Int, (25 ≤ a ∧ a ≤ 32) ∨ (34 ≤ a ∧ a ≤ 41) ∨ (54 ≤ a ∧ a ≤ 55) → el σ' a j = el σ a j) (gf : ∀ f : Nat, 95 ≤ f ∧ f ≤ 129 → fl τ' f 0 = fl τ f 0) (ge : ∀ a j : Int, 10 ≤ a ∧ a ≤ 26 → el τ' a j = el τ a j) : OUr n σ' τ' := by
  obtain ⟨h1, h2, h3, h4⟩ := h
  refine ⟨?_, h2.stl (fun j => he 54 j (by omega)) (fun j => he 55 j (by omega)) (fun j => ge 26 j (by omega)) (fun j => ge 25 j (by omega)), h3.stl (hf 68 24 (by omega)) (gf 121 (by omega)) (gf 128 (by omega)) (fun a j x y => he a j (by omega)) (fun a j x y => ge a j (by omega)), h4.stl (hf 68 33 (by omega)) (gf 129 (by omega)) (fun a j x y => he a j (by omega)) (fun a j x y => ge a j (by omega))⟩
  unfold RTm KY at h1 ⊢
  rw [hf 253 0 (by omega), hf 254 0 (by omega), hf 161 9 (by omega), hf 52 10 (by omega), hf 53 10 (by omega), hf 255 0 (by omega), hf 256 0 (by omega), hf 257 0 (by omega), hf 258 0 (by omega), gf 115 (by omega), gf 116 (by omega), gf 117 (by omega), gf 95 (by omega), gf 118 (by omega), gf 119 (by omega), gf 120 (by omega)]
  exact h1
theorem OUr.kf {n : Nat} {π π' : Sh} {σ τ σ' τ' : St} (h : OUr n σ τ) (h56 : 56 ≤ nn π) (h43 : fl σ 1 43 < 0 ∨ 56 ≤ fl σ 1 43) (kc : KCf π σ π' σ') (kr : KRf τ τ') : OUr n σ' τ' := h.mv (fun f i hx => kc.2.1 f i (by omega) (by unfold xC; omega)) (fun a j hx => kc.2.2.1 a j (by omega) (by omega) (by omega) (by omega)) (fun f hf => kr.1 f 0 (by unfold xR; omega)) (fun a j hx => kr.2 a j (by omega) (by omega))
/-- the call is told of -/
theorem OUr.told {n : Nat} {σ τ σ' τ' : St} {v pl ct : Int} (h : OUr n σ τ) (hC : ∀ (f : Nat) (i : Int), ¬ (i = 0 ∧ 255 ≤ f ∧ f ≤ 258) → ¬ (i = 1 ∧ f = 181) → fl σ' f i = fl σ f i) (hE : ∀ a j : Int, el σ' a j = el σ a j) (hR : ∀ f : Nat, 62 ≤ f → ¬ (118 ≤ f ∧ f ≤ 120) → fl τ' f 0 = fl τ f 0) (hG : ∀ a j : Int, 10 ≤ a ∧ a ≤ 26 → el τ' a j = el τ a j) (h1 : fl σ' 255 0 = 1 ∧ fl σ' 256 0 = v ∧ fl σ' 257 0 = pl ∧ fl σ' 258 0 = ct) (h2 : fl τ' 118 0 = v ∧ fl τ' 119 0 = pl ∧ fl τ' 120 0 = ct) : OUr (n + 1) σ' τ' := by
  obtain ⟨⟨m1, ⟨m2, m3, m4⟩, m5, -⟩, k2, k3, k4⟩ := h
  refine ⟨⟨?_, ⟨?_, ?_, ?_⟩, ?_, Or.inr ⟨h1.1, by rw [h1.2.1, h2.1], by rw [h1.2.2.1, h2.2.1], by rw [h1.2.2.2, h2.2.2], trivial, trivial, trivial⟩⟩, k2.stl (fun j => hE 54 j) (fun j => hE 55 j) (fun j => hG 26 j (by omega)) (fun j => hG 25 j (by omega)), k3.stl (hC 68 24 (by omega) (by omega)) (hR 121 (by omega) (by omega)) (hR 128 (by omega) (by omega)) (fun a j x y => hE a j) (fun a j x y => hG a j (by omega)), k4.stl (hC 68 33 (by omega) (by omega)) (hR 129 (by omega) (by omega)) (fun a j x y => hE a j) (fun a j x y => hG a j (by omega))⟩
  · rw [hC 253 0 (by omega) (by omega), hR 115 (by omega) (by omega), hR 116 (by omega) (by omega)]; exact m1
  · rw [hC 254 0 (by omega) (by omega), hR 117 (by omega) (by omega)]; exact m2
  · rw [hR 117 (by omega) (by omega)]; exact m3
  · rw [hR 117 (by omega) (by omega)]; omega
  · unfold KY at m5 ⊢
    rw [hC 161 9 (by omega) (by omega), hR 95 (by omega) (by omega), hC 52 10 (by omega) (by omega), hC 53 10 (by omega) (by omega)]; exact m5
end DN9
