/-! definitions of both, and how they last -/
section DG
/-- a use that may be carried out, by levels; of versions below V -/
def UDb (N : Nat) (V : Int) : Nat → Gl → Int → Stq → Prop
  | 0 => fun _ _ _ => True
  | x + 1 => fun g vlo y => (0 ≤ y.2.2.2.1 ∧ y.2.2.2.1 < V ∧ V ≤ 6000) ∧ ∃ (P : Int) (L : List Stq) (Kn : List Int) (o n lo hi vlo' u v : Int) (k : Nat), DS g y.2.2.1 P L Kn o ∧ (y.2.2.2.2.2.2.2.length : Int) = P ∧ el g.2.2.1 81 y.2.2.2.1 = P ∧ el g.2.2.1 80 y.2.2.2.1 = n ∧ (hi ≤ vlo ∧ vlo' ≤ vlo) ∧ k ≤ 99000 ∧ u ≤ HLv (12 - x) ∧ v ≤ HLv (12 - x) ∧ TKS N (UDl N x) (12 - x) g.2.2.1 vlo' lo hi P Kn 0 L u v k 0 0 [(1, n)] [] [o] [] [] ∧ ∀ z ∈ L, z.1 = 99 → UDb N V x g vlo' z
theorem UDb.ul {N : Nat} {V : Int} {g : Gl} : ∀ (x : Nat) (vlo : Int) (y : Stq), UDb N V x g vlo y → UDl N x g vlo y := by
  intro x
  induction x with
  | zero => intro vlo y _; trivial
  | succ x ih =>
    intro vlo y h
    obtain ⟨⟨h1, h2, h3⟩, P, L, Kn, o, n, lo, hi, vlo', u, v, k, d1, d2, d3, d4, d5, d6, d7, d8, d9, d10⟩ := h
    have e : (11 : Int) - x + 1 = 12 - x := by omega
    refine ⟨P, L, Kn, o, n, lo, hi, vlo', u, v, k, d1, d2, ⟨h1, by omega⟩, d3, d4, d5, d6, by rw [e]; exact d7, by rw [e]; exact d8, by rw [e]; exact d9, fun z hz hq => ih _ _ (d10 z hz hq)⟩
theorem DS.grow {g g' : Gl} {D P o : Int} {L : List Stq} {Kn : List Int} (hx : HX g.1 g.2.1 g'.1 g'.2.1) (ht : TX g.2.2.1 g'.2.2.1) (h : DS g D P L Kn o) : DS g' D P L Kn o := by
  obtain ⟨q1, q2, q3, q4, q5, q6⟩ := h
  refine ⟨q1.ext hx.1, (hx.fd (in1 (by omega)) q1.2.1).trans q2, q3, ?_, ?_, (hx.fd (in1 (by omega)) q1.2.1).trans q6⟩
  · rw [hx.fd (in1 (by omega)) q1.2.1]
    exact q4.grow hx (fun r e _ hr => hr.grow hx)
  · rw [hx.fd (in1 (by omega)) q1.2.1]
    exact q5.grow hx (fun r e _ hr => ⟨hr.1.ext hx.1, hr.2.grow hx ht⟩)
theorem UDb.keep {N : Nat} {V V' m : Int} {g g' : Gl} (hx : HX g.1 g.2.1 g'.1 g'.2.1) (ht : TX g.2.2.1 g'.2.2.1) (hV : V ≤ V' ∧ V' ≤ 6000) (hv : ∀ a v : Int, 80 ≤ a → a ≤ 81 → v < V → el g'.2.2.1 a v = el g.2.2.1 a v) (hn : ∀ a i : Int, 85 ≤ a → a ≤ 94 → i < m → el g'.2.2.1 a i = el g.2.2.1 a i) : ∀ (x : Nat) (vlo vlo1 : Int) (y : Stq), vlo ≤ m → vlo ≤ vlo1 → UDb N V x g vlo y → UDb N V' x g' vlo1 y := by
  intro x
  induction x with
  | zero => intro vlo vlo1 y _ _ _; trivial
  | succ x ih =>
    intro vlo vlo1 y hm hl h
    obtain ⟨⟨h1, h2, h3⟩, P, L, Kn, o, n, lo, hi, vlo', u, v, k, d1, d2, d3, d4, d5, d6, d7, d8, d9, d10⟩ := h
    refine ⟨⟨h1, by omega, hV.2⟩, P, L, Kn, o, n, lo, hi, vlo', u, v, k, d1.grow hx ht, d2, (hv 81 _ (by decide) (by decide) h2).trans d3, (hv 80 _ (by decide) (by decide) h2).trans d4, ⟨by omega, by omega⟩, d6, d7, d8, ?_, fun z hz hq => ih _ _ _ (by omega) (Int.le_refl _) (d10 z hz hq)⟩
    exact d9.mono (Nat.le_refl _) (Int.le_refl _) (Int.le_refl _) (fun a i a1 a2 _ a4 => hn a i a1 a2 (by omega)) (List.prefix_refl _) (Int.le_refl _) (Int.le_refl _) (Int.le_refl _) (Int.le_refl _) (fun _ hx => hx) (fun _ hx => hx)
/-- what was made and read stays, as more is made and read -/
def GRW (π : Sh) (σ τ : St) (π' : Sh) (σ' τ' : St) : Prop := HX π σ π' σ' ∧ TX τ τ' ∧ (fl τ 28 0 ≤ fl τ' 28 0 ∧ fl τ' 28 0 ≤ 6000) ∧ fl τ 16 0 ≤ fl τ' 16 0 ∧ (∀ a v : Int, 79 ≤ a → a ≤ 83 → v < fl τ 28 0 → el τ' a v = el τ a v) ∧ ∀ a i : Int, 85 ≤ a → a ≤ 94 → i < fl τ 16 0 → el τ' a i = el τ a i
theorem GRW.tr {π π1 π2 : Sh} {σ τ σ1 τ1 σ2 τ2 : St} (h : GRW π σ τ π1 σ1 τ1) (k : GRW π1 σ1 τ1 π2 σ2 τ2) : GRW π σ τ π2 σ2 τ2 := ⟨h.1.tr k.1, h.2.1.tr k.2.1, ⟨Int.le_trans h.2.2.1.1 k.2.2.1.1, k.2.2.1.2⟩, Int.le_trans h.2.2.2.1 k.2.2.2.1, fun a v x y z => (k.2.2.2.2.1 a v x y (by have := h.2.2.1.1; omega)).trans (h.2.2.2.2.1 a v x y z), fun a v x y z => (k.2.2.2.2.2 a v x y (by have := h.2.2.2.1; omega)).trans (h.2.2.2.2.2 a v x y z)⟩
/-- a definition with parameters, ready to be used -/
def GDx (N : Nat) (π : Sh) (σ τ : St) (e : Int × Int) : Prop := ∀ x : Nat, x ≤ 12 → ∀ y : Stq, y.2.2.1 = e.1 → y.2.2.2.1 = e.2 → (y.2.2.2.2.2.2.2.length : Int) = el τ 81 e.2 → UDb N (fl τ 28 0) x (π, σ, τ, 0, 0, 0) (fl τ 16 0) y
/-- a definition of both -/
def DFx (N : Nat) (π : Sh) (σ τ : St) (e : Int × Int) : Prop := DFe (π, σ, τ, 0, 0) e ∧ e.2 < fl τ 28 0 ∧ (1 ≤ el τ 81 e.2 → GDx N π σ τ e)
theorem DFx.keep {N : Nat} {π π' : Sh} {σ τ σ' τ' : St} {e : Int × Int} (h : DFx N π σ τ e) (k : GRW π σ τ π' σ' τ') : DFx N π' σ' τ' e := by
  obtain ⟨k1, k2, k3, k4, k5, k6⟩ := k
  obtain ⟨⟨a1, a2, a3, a4, a5, a6⟩, h2, h3⟩ := h
  simp only at a1 a2 a3 a4 a5 a6
  have l := a1.2.1
  have f20 := k1.fd (f := 20) (in1 (by omega)) l
  have f22 := k1.fd (f := 22) (in1 (by omega)) l
  have f26 := k1.fd (f := 26) (in1 (by omega)) l
  have e81 := k5 81 e.2 (by decide) (by decide) h2
  refine ⟨⟨a1.ext k1.1, ?_, ?_, ?_, a5, fun h0 => ?_⟩, by omega, fun h1 => ?_⟩
  · simp only
    rw [f20, k5 83 _ (by decide) (by decide) h2, k5 82 _ (by decide) (by decide) h2]
    exact a2
  · simp only
    rw [f22, e81]
    exact a3
  · simp only
    rw [f22]
    exact a4
  · simp only at h0 ⊢
    rw [f22] at h0
    rw [f26, k5 79 _ (by decide) (by decide) h2]
    exact ⟨(a6 h0).1.ext k1.1, (a6 h0).2.grow k1 k2⟩
  · rw [e81] at h1
    have g := h3 h1
    intro x hx y y1 y2 y3
    rw [e81] at y3
    exact UDb.keep (g := (π, σ, τ, 0, 0, 0)) (g' := (π', σ', τ', 0, 0, 0)) (m := fl τ 16 0) k1 k2 k3 (fun a v x1 x2 x3 => k5 a v (by omega) (by omega) x3) k6 x _ _ y (Int.le_refl _) k4 (g x hx y y1 y2 y3)
/-- the use of a definition that was known when a line began -/
theorem DFx.ul {N : Nat} {π : Sh} {σ τ : St} {e : Int × Int} {y : Stq} {nn0 sw0 Kb : Int} (h : DFx N π σ τ e) (h28 : fl τ 28 0 ≤ 6000) (h1 : y.2.2.1 = e.1) (h2 : y.2.2.2.1 = e.2) (h3 : (y.2.2.2.2.2.2.2.length : Int) = el τ 81 e.2) (h4 : 1 ≤ y.2.2.2.2.2.2.2.length) {x : Nat} (hx : x ≤ 12) : UDb N (fl τ 28 0) x (π, σ, τ, nn0, sw0, Kb) (fl τ 16 0) y :=
  UDb.keep (g := (π, σ, τ, 0, 0, 0)) (g' := (π, σ, τ, nn0, sw0, Kb)) (m := fl τ 16 0) (HX.rf _ _) (TX.rf _) ⟨Int.le_refl _, h28⟩ (fun _ _ _ _ _ => rfl) (fun _ _ _ _ _ => rfl) x _ _ y (Int.le_refl _) (Int.le_refl _) (h.2.2 (by omega) x hx y h1 h2 h3)
end DG
