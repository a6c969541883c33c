/-! a reading call: what it leaves alone, and how it begins -/
section FR9
variable {N : Nat}
/-- what a reading may change of the class's first cells -/
def xC (f : Nat) (i : Int) : Prop := (i = 50 ∧ 221 ≤ f ∧ f ≤ 225) ∨ (i = 1 ∧ 182 ≤ f ∧ f ≤ 190) ∨ (i = 44 ∧ 144 ≤ f ∧ f ≤ 146) ∨ (i = 3 ∧ 85 ≤ f ∧ f ≤ 89) ∨ (i = 43 ∧ f ≤ 2)
def KCf (π : Sh) (σ : St) (π' : Sh) (σ' : St) : Prop := ext π π' ∧ (∀ (f : Nat) (i : Int), i < nn π → ¬ xC f i → fl σ' f i = fl σ f i) ∧ (∀ a j : Int, 0 ≤ a → a < nn π → ¬ (5 ≤ a ∧ a ≤ 8) → a ≠ fl σ 1 43 → el σ' a j = el σ a j) ∧ (fl σ' 1 43 = fl σ 1 43 ∨ nn π ≤ fl σ' 1 43)
theorem KCf.rf (π : Sh) (σ : St) : KCf π σ π σ := ⟨ext.rf _, fun _ _ _ _ => rfl, fun _ _ _ _ _ _ => rfl, Or.inl rfl⟩
theorem KCf.step {π π1 π2 : Sh} {σ σ1 σ2 : St} (h : KCf π σ π1 σ1) (he : ext π1 π2) (hf : ∀ (f : Nat) (i : Int), i < nn π → ¬ xC f i → fl σ2 f i = fl σ1 f i) (ha : ∀ a j : Int, 0 ≤ a → a < nn π → ¬ (5 ≤ a ∧ a ≤ 8) → a ≠ fl σ 1 43 → el σ2 a j = el σ1 a j) (h43 : fl σ2 1 43 = fl σ1 1 43 ∨ nn π ≤ fl σ2 1 43) : KCf π σ π2 σ2 := by
  refine ⟨h.1.tr he, fun f i a b => (hf f i a b).trans (h.2.1 f i a b), fun a j x0 x y z => (ha a j x0 x y z).trans (h.2.2.1 a j x0 x y z), ?_⟩
  rcases h43 with q | q
  · rw [q]; exact h.2.2.2
  · exact Or.inr q
theorem KCf.hx {π π' : Sh} {σ σ' : St} (h : KCf π σ π' σ') (h56 : 56 ≤ nn π) (ha : fl σ 1 43 < 0 ∨ ob π (fl σ 1 43) 27) : HX π σ π' σ' := by
  refine ⟨h.1, fun f i h2 h3 hi => h.2.1 f i hi (by unfold xC; unfold inF at h2; omega), fun a j a1 a2 a3 => h.2.2.1 a j (by omega) a2 (by omega) (fun e => ?_), fun y y1 y2 y3 _ => ⟨⟨h.2.1 1 y y3 (by unfold xC; omega), h.2.1 2 y y3 (by unfold xC; omega)⟩, fun b1 b2 b3 b4 j => h.2.2.1 _ j (by omega) b2 (by omega) b4⟩, fun h43 => ⟨Or.inl (h.2.1 1 42 (by omega) (by unfold xC; omega)), h.2.2.2⟩⟩
  rcases ha with q | q
  · omega
  · rw [← e] at q; exact a3 q.2.2
/-- the scanner moves -/
theorem KCf.sc {π π1 : Sh} {σ σ1 σ2 : St} (h : KCf π σ π1 σ1) (k : SFc σ1 σ2) : KCf π σ π1 σ2 := h.step (ext.rf _) (fun f i _ hx => k.1 f i (by unfold xC at hx; omega)) (fun a j _ _ _ _ => k.2 a j) (Or.inl (k.1 1 43 (by omega)))
/-- the list of the reading changes -/
theorem KCf.ls {π π1 π2 : Sh} {σ σ1 σ2 : St} (h : KCf π σ π1 σ1) (k : FLs 43 π1 σ1 π2 σ2) : KCf π σ π2 σ2 := by
  have e := h.1.1
  refine h.step k.1 (fun f i hi hx => k.2.1 f i (by omega) (by unfold xC at hx; omega)) (fun a j _ x y z => k.2.2.1 a j (by omega) (by rcases h.2.2.2 with q | q <;> omega)) ?_
  rcases k.2.2.2 with q | q
  · exact Or.inl q
  · exact Or.inr (by omega)
/-- what is made -/
theorem KCf.mk {π : Sh} {σ : St} {g : Gl} {π2 : Sh} {σ2 : St} (h : KCf π σ g.1 g.2.1) (k : FC g π2 σ2) (h56 : 56 ≤ nn g.1) : KCf π σ π2 σ2 := by
  have e := h.1.1
  exact h.step k.1 (fun f i hi hx => k.2.1 f i (by omega) (by unfold xC at hx; omega)) (fun a j _ x y z => k.2.2 a j (by omega) y) (Or.inl (k.2.1 1 43 (by omega) (by omega)))
/-- what is read -/
theorem KCf.rd {x y : Int} {π π1 π2 : Sh} {σ σ1 σ2 : St} (h : KCf π σ π1 σ1) (k : EFt x y π1 σ1 π2 σ2) (hx : nn π ≤ x) (hy : nn π ≤ y) (h56 : 56 ≤ nn π) (ax : fl σ1 1 x < 0 ∨ nn π ≤ fl σ1 1 x) (ay : fl σ1 1 y < 0 ∨ nn π ≤ fl σ1 1 y) : KCf π σ π2 σ2 := by
  have e := h.1.1
  exact h.step k.1 (fun f i hi hq => k.2.1 f i (by omega) (by unfold xC at hq; omega) (by unfold xC at hq; omega) (by unfold xC at hq; omega) (by omega)) (fun a j a0 x1 y1 z => k.2.2.1 a j (by omega) (by omega) (by omega)) (Or.inl (k.2.1 1 43 (by omega) (by omega) (by omega) (by omega) (by omega)))
/-- the reference -/
def xR (f : Nat) : Prop := (2 ≤ f ∧ f ≤ 13) ∨ f = 16 ∨ f = 28 ∨ f = 36 ∨ f = 38 ∨ f = 41 ∨ f = 46 ∨ f = 47 ∨ f = 48 ∨ f = 61 ∨ (64 ≤ f ∧ f ≤ 83) ∨ (149 ≤ f ∧ f ≤ 152)
def KRf (τ τ' : St) : Prop := (∀ (f : Nat) (i : Int), ¬ xR f → fl τ' f i = fl τ f i) ∧ ∀ a j : Int, ¬ (53 ≤ a ∧ a ≤ 77) → ¬ (79 ≤ a ∧ a ≤ 94) → el τ' a j = el τ a j
theorem KRf.rf (τ : St) : KRf τ τ := ⟨fun _ _ _ => rfl, fun _ _ _ _ => rfl⟩
theorem KRf.tr {τ τ1 τ2 : St} (h : KRf τ τ1) (k : KRf τ1 τ2) : KRf τ τ2 := ⟨fun f i x => (k.1 f i x).trans (h.1 f i x), fun a j x y => (k.2 a j x y).trans (h.2 a j x y)⟩
theorem KRf.sf {τ τ1 : St} (h : KRf τ τ1) (f : Nat) (i v : Int) (hf : xR f) : KRf τ (sf τ1 f i v) := h.tr ⟨fun g j x => fl_sfn _ _ _ _ (fun e => x (e ▸ hf)), fun _ _ _ _ => rfl⟩
theorem KRf.se {τ τ1 : St} (h : KRf τ τ1) (a j v : Int) (ha : (53 ≤ a ∧ a ≤ 77) ∨ (79 ≤ a ∧ a ≤ 94)) : KRf τ (se τ1 a j v) := h.tr ⟨fun _ _ _ => rfl, fun b i x y => el_sen _ _ _ _ (by omega)⟩
theorem KRf.sc {τ τ1 τ2 : St} (h : KRf τ τ1) (k : SFr τ1 τ2) : KRf τ τ2 := h.tr ⟨fun f i x => k.1 f i (by unfold xR at x; omega), fun a j _ _ => k.2 a j⟩
theorem KRf.rd {lo d : Int} {τ τ1 τ2 : St} (h : KRf τ τ1) (k : RDr lo d τ1 τ2) : KRf τ τ2 := h.tr ⟨fun f i x => k.1 f i (by unfold xR at x; omega) (by unfold xR at x; omega) (by unfold xR at x; omega) (by unfold xR at x; omega) (by unfold xR at x; omega), fun a j x y => k.2.1 a j (by omega) (by omega)⟩
theorem KRf.mk {g : Gl} {τ τ2 : St} (h : KRf τ g.2.2.1) (k : FRr g τ2) : KRf τ τ2 := h.tr ⟨fun f i x => k.1 f i (by unfold xR at x; omega) (by unfold xR at x; omega) (by unfold xR at x; omega) (by unfold xR at x; omega) (by unfold xR at x; omega) (by unfold xR at x; omega) (by unfold xR at x; omega) (by unfold xR at x; omega) (by unfold xR at x; omega) (by unfold xR at x; omega), fun a j x y => k.2.1 a j (by omega) (by omega)⟩
/-- the reference copies the definitions that hold -/
theorem rb_lp : ∀ (m n : Nat) (τ : St) (i h : Int), m = (h - i).toNat → m < n → 0 ≤ i → i ≤ h → h ≤ 40 → fl τ 34 0 = h → ∃ τ', r_begins_62 N n τ i = Option.bind (r_look N τ' 0) (fun r => some r) ∧ (∀ (f : Nat) j, fl τ' f j = fl τ f j) ∧ (∀ a j : Int, ¬ (a = 77 ∧ i ≤ j ∧ j < h) → el τ' a j = el τ a j) ∧ ∀ j, i ≤ j → j < h → el τ' 77 j = el τ 78 j := by
  intro m
  induction m with
  | zero =>
    intro n τ i h hm hn h0 h1 h2 h3
    obtain ⟨n, rfl⟩ : ∃ k, n = k + 1 := ⟨n - 1, by omega⟩
    refine ⟨τ, ?_, fun _ _ => rfl, fun _ _ _ => rfl, fun j j0 j1 => by omega⟩
    rw [r_begins_62, grd_t (by exact ⟨by omega, by omega⟩), h3, grd_t (by exact ⟨by omega, by omega⟩), if_neg (by omega)]
  | succ m ih =>
    intro n τ i h hm hn h0 h1 h2 h3
    obtain ⟨n, rfl⟩ : ∃ k, n = k + 1 := ⟨n - 1, by omega⟩
    obtain ⟨τ', q1, q2, q3, q4⟩ := ih n (se τ 77 i (el τ 78 i)) (i + 1) h (by omega) (by omega) (by omega) (by omega) h2 h3
    refine ⟨τ', ?_, fun f j => q2 f j, fun a j hx => ?_, fun j j0 j1 => ?_⟩
    · rw [r_begins_62, grd_t (by exact ⟨by omega, by omega⟩), h3, grd_t (by exact ⟨by omega, by omega⟩), if_pos (by omega), grd_t (by exact ⟨by omega, by omega⟩), grd_t (by exact ⟨by omega, by omega⟩)]
      exact q1
    · rw [q3 a j (by omega), el_se, if_neg (by omega)]
    · by_cases c : j = i
      · rw [c, q3 77 i (by omega), el_ses]
      · rw [q4 j (by omega) j1, el_sen _ _ _ _ (by decide)]
/-- and back -/
theorem rh_lp : ∀ (m n : Nat) (τ : St) (i h : Int), m = (h - i).toNat → m < n → 0 ≤ i → i ≤ h → h ≤ 40 → fl τ 34 0 = h → ∃ τ', r_read_80 N n τ i = r_read_106 N τ' ∧ (∀ (f : Nat) j, fl τ' f j = fl τ f j) ∧ (∀ a j : Int, ¬ (a = 78 ∧ i ≤ j ∧ j < h) → el τ' a j = el τ a j) ∧ ∀ j, i ≤ j → j < h → el τ' 78 j = el τ 77 j := by
  intro m
  induction m with
  | zero =>
    intro n τ i h hm hn h0 h1 h2 h3
    obtain ⟨n, rfl⟩ : ∃ k, n = k + 1 := ⟨n - 1, by omega⟩
    refine ⟨τ, ?_, fun _ _ => rfl, fun _ _ _ => rfl, fun j j0 j1 => by omega⟩
    rw [r_read_80, grd_t (by exact ⟨by omega, by omega⟩), h3, grd_t (by exact ⟨by omega, by omega⟩), if_neg (by omega)]
  | succ m ih =>
    intro n τ i h hm hn h0 h1 h2 h3
    obtain ⟨n, rfl⟩ : ∃ k, n = k + 1 := ⟨n - 1, by omega⟩
    obtain ⟨τ', q1, q2, q3, q4⟩ := ih n (se τ 78 i (el τ 77 i)) (i + 1) h (by omega) (by omega) (by omega) (by omega) h2 h3
    refine ⟨τ', ?_, fun f j => q2 f j, fun a j hx => ?_, fun j j0 j1 => ?_⟩
    · rw [r_read_80, grd_t (by exact ⟨by omega, by omega⟩), h3, grd_t (by exact ⟨by omega, by omega⟩), if_pos (by omega), grd_t (by exact ⟨by omega, by omega⟩), grd_t (by exact ⟨by omega, by omega⟩)]
      exact q1
    · rw [q3 a j (by omega), el_se, if_neg (by omega)]
    · by_cases c : j = i
      · rw [c, q3 78 i (by omega), el_ses]
      · rw [q4 j (by omega) j1, el_sen _ _ _ _ (by decide)]
end FR9
