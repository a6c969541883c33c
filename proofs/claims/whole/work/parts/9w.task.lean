/-! making: both makers side by side, told by tasks -/
/-- a step, told by the reference's kind and numbers: kind, place, a, b, c, d, whether parts count, operands; a use: 99, place, definition, version -/
abbrev Stq : Type := Int × Int × Int × Int × Int × Int × Int × List Kid
def USq (π : Sh) (σ : St) (s place D : Int) (ops : List Kid) : Prop := ob π s 10 ∧ fl σ 200 s = 25 ∧ fl σ 201 s = place ∧ fl σ 208 s = D ∧ ob π D 1 ∧ fl σ 209 s = ops.length ∧ (1 ≤ ops.length ∧ ops.length ≤ 4) ∧ (ob π (fl σ 210 s) 22 ∧ ops.length ≤ ln π (fl σ 210 s) ∧ ln π (fl σ 210 s) < 100000 ∧ 56 ≤ fl σ 210 s ∧ At (fun i k => el σ (fl σ 210 s) i = k.1) 0 ops)
def SQ (π : Sh) (σ : St) (s : Int) (x : Stq) : Prop := (x.1 = 99 ∧ USq π σ s x.2.1 x.2.2.1 x.2.2.2.2.2.2.2) ∨ (x.1 ≠ 99 ∧ SRq π σ s x.1 x.2.1 x.2.2.1 x.2.2.2.1 x.2.2.2.2.1 x.2.2.2.2.2.1 x.2.2.2.2.2.2.1 x.2.2.2.2.2.2.2)
theorem HP.fd {π π' : Sh} {σ σ' : St} (h : HP π σ π' σ') {f : Nat} {i : Int} (hf : inF f ∧ 100 ≤ f) (hi : i < nn π) : fl σ' f i = fl σ f i := h.2.1 f i hf.1 hf.2 hi
theorem in2 {f : Nat} (h : 200 ≤ f ∧ f < 220) : inF f ∧ 100 ≤ f := by unfold inF; omega
theorem in1 {f : Nat} (h : 3 ≤ f ∧ f < 40) : inF f ∧ 3 ≤ f := by unfold inF; omega
theorem WAx.growP {π π' : Sh} {σ σ' : St} {s : Int} {l : List Kid} (hX : HP π σ π' σ') (hs : s < nn π) (h : WAx π σ s l) : WAx π' σ' s l := by
  obtain ⟨⟨a1, a2, a3⟩, ⟨b1, b2, b3, b4⟩, ⟨c1, c2, c3⟩, d, e⟩ := h
  unfold WAx
  rw [hX.fd (in2 (by omega)) hs, hX.fd (in2 (by omega)) hs, hX.fd (in2 (by omega)) hs, (hX.1.2.2 _ a1.2.1).2, (hX.1.2.2 _ b1.2.1).2, (hX.1.2.2 _ c1.2.1).2]
  refine ⟨⟨a1.ext hX.1, a2, a3⟩, ⟨b1.ext hX.1, b2, b3, b4⟩, ⟨c1.ext hX.1, c2, c3⟩, d.mono (fun i k _ _ _ hk => ?_), fun i i0 i1 => ?_⟩
  · rw [hX.2.2 _ _ (Or.inl a3) a1.2.1 (by rw [a1.2.2]; decide), hX.2.2 _ _ (Or.inl b3) b1.2.1 (by rw [b1.2.2]; decide)]; exact hk
  · rw [hX.2.2 _ _ (Or.inl c3) c1.2.1 (by rw [c1.2.2]; decide)]; exact e i i0 i1
theorem CKx.growP {π π' : Sh} {σ σ' : St} {s K a b c d : Int} {l : List Kid} (hX : HP π σ π' σ') (hs : s < nn π) (h : CKx π σ s K a b c d l) : CKx π' σ' s K a b c d l := by
  obtain ⟨x1, x2, x3, x4, x5, x6, x7, x8⟩ := h
  unfold CKx
  rw [hX.fd (f := 200) (in2 (by omega)) hs, hX.fd (f := 207) (in2 (by omega)) hs, hX.fd (f := 202) (in2 (by omega)) hs, hX.fd (f := 203) (in2 (by omega)) hs, hX.fd (f := 204) (in2 (by omega)) hs, hX.fd (f := 205) (in2 (by omega)) hs, hX.fd (f := 212) (in2 (by omega)) hs]
  exact ⟨x1, x2, x3, x4, x5, x6, fun hc => (x7 hc).growP hX hs, x8⟩
theorem SRq.growP {π π' : Sh} {σ σ' : St} {s K place a b c d cnt : Int} {l : List Kid} (hX : HP π σ π' σ') (h : SRq π σ s K place a b c d cnt l) : SRq π' σ' s K place a b c d cnt l := by
  obtain ⟨s1, s2, s3, s4, s5, s6, s7, s8, s9, s10, s11⟩ := h
  have hs := s1.2.1
  unfold SRq
  rw [hX.fd (f := 201) (in2 (by omega)) hs, hX.fd (f := 206) (in2 (by omega)) hs, hX.fd (f := 209) (in2 (by omega)) hs, hX.fd (f := 210) (in2 (by omega)) hs, (hX.1.2.2 _ s7.2.1).2]
  exact ⟨s1.ext hX.1, s2.growP hX hs, s3, s4, s5, s6, s7.ext hX.1, s8, s9, s10, s11.mono (fun i k _ _ _ hk => by rw [hX.2.2 _ _ (Or.inl s10) s7.2.1 (by rw [s7.2.2]; decide)]; exact hk)⟩
theorem USq.growP {π π' : Sh} {σ σ' : St} {s place D : Int} {l : List Kid} (hX : HP π σ π' σ') (h : USq π σ s place D l) : USq π' σ' s place D l := by
  obtain ⟨s1, s2, s3, s4, s4', s5, s6, s7, s8, s9, s10, s11⟩ := h
  have hs := s1.2.1
  unfold USq
  rw [hX.fd (f := 200) (in2 (by omega)) hs, hX.fd (f := 201) (in2 (by omega)) hs, hX.fd (f := 208) (in2 (by omega)) hs, hX.fd (f := 209) (in2 (by omega)) hs, hX.fd (f := 210) (in2 (by omega)) hs, (hX.1.2.2 _ s7.2.1).2]
  exact ⟨s1.ext hX.1, s2, s3, s4, s4'.ext hX.1, s5, s6, s7.ext hX.1, s8, s9, s10, s11.mono (fun i k _ _ _ hk => by rw [hX.2.2 _ _ (Or.inl s10) s7.2.1 (by rw [s7.2.2]; decide)]; exact hk)⟩
theorem SQ.growP {π π' : Sh} {σ σ' : St} {s : Int} {x : Stq} (hX : HP π σ π' σ') (h : SQ π σ s x) : SQ π' σ' s x := by
  rcases h with ⟨h1, h2⟩ | ⟨h1, h2⟩
  · exact Or.inl ⟨h1, h2.growP hX⟩
  · exact Or.inr ⟨h1, h2.growP hX⟩
theorem HX.fd {π π' : Sh} {σ σ' : St} (h : HX π σ π' σ') {f : Nat} {i : Int} (hf : inF f ∧ 3 ≤ f) (hi : i < nn π) : fl σ' f i = fl σ f i := h.2.1 f i hf.1 hf.2 hi
theorem USq.grow {π π' : Sh} {σ σ' : St} {s place D : Int} {l : List Kid} (hX : HX π σ π' σ') (h : USq π σ s place D l) : USq π' σ' s place D l := h.growP hX.hp
theorem SQ.grow {π π' : Sh} {σ σ' : St} {s : Int} {x : Stq} (hX : HX π σ π' σ') (h : SQ π σ s x) : SQ π' σ' s x := h.growP hX.hp
/-- a list of the class -/
def LSq {α : Type} (π : Sh) (σ : St) (x : Int) (R : Int → α → Prop) (l : List α) : Prop := ob π x 0 ∧ fl σ 2 x = l.length ∧ l.length < 100000 ∧ (l ≠ [] → ob π (fl σ 1 x) 27 ∧ l.length ≤ ln π (fl σ 1 x) ∧ ln π (fl σ 1 x) < 1000000 ∧ 56 ≤ fl σ 1 x ∧ At (fun i e => R (el σ (fl σ 1 x) i) e) 0 l) ∧ x ≠ 42 ∧ x ≠ 43 ∧ (l ≠ [] → fl σ 1 x ≠ fl σ 1 42 ∧ fl σ 1 x ≠ fl σ 1 43)
theorem LSq.grow {α : Type} {π π' : Sh} {σ σ' : St} {x : Int} {R R' : Int → α → Prop} {l : List α} (hX : HX π σ π' σ') (hR : ∀ r e, e ∈ l → R r e → R' r e) (h : LSq π σ x R l) : LSq π' σ' x R' l := by
  obtain ⟨a, b, c, d, e1, e2, e3⟩ := h
  obtain ⟨⟨f1, f2⟩, f3⟩ := hX.2.2.2.1 x e1 e2 a.2.1 a.2.2
  unfold LSq
  rw [f1, f2]
  refine ⟨a.ext hX.1, b, c, fun hl => ?_, e1, e2, fun hl => ?_⟩
  · obtain ⟨d1, d2, d3, d4, d5⟩ := d hl
    rw [(hX.1.2.2 _ d1.2.1).2]
    exact ⟨d1.ext hX.1, d2, d3, d4, d5.mono (fun i e _ _ he hk => by rw [f3 d4 d1.2.1 (e3 hl).1 (e3 hl).2]; exact hR _ _ he hk)⟩
  · obtain ⟨d1, d2, d3, d4, d5⟩ := d hl
    have q := d1.2.1
    obtain ⟨g1, g2⟩ := hX.2.2.2.2 (by omega)
    have := (e3 hl)
    exact ⟨by rcases g1 with g | g <;> omega, by rcases g2 with g | g <;> omega⟩
theorem LSq.at {α : Type} {π : Sh} {σ : St} {x : Int} {R : Int → α → Prop} {l : List α} (h : LSq π σ x R l) {i : Nat} {e : α} (he : l[i]? = some e) : (0 ≤ (i : Int) ∧ (i : Int) < l.length) ∧ ob π (fl σ 1 x) 27 ∧ l.length ≤ ln π (fl σ 1 x) ∧ ln π (fl σ 1 x) < 1000000 ∧ 56 ≤ fl σ 1 x ∧ R (el σ (fl σ 1 x) i) e := by
  obtain ⟨a, b, c, d, -⟩ := h
  have hl : i < l.length := (List.getElem?_eq_some_iff.mp he).1
  obtain ⟨d1, d2, d3, d4, d5⟩ := d (by intro h0; rw [h0] at hl; exact absurd hl (by simp))
  refine ⟨⟨by omega, by omega⟩, d1, d2, d3, d4, ?_⟩
  have : ∀ (l : List α) (i : Nat) (s : Int), l[i]? = some e → At (fun i e => R (el σ (fl σ 1 x) i) e) s l → R (el σ (fl σ 1 x) (s + i)) e := by
    intro l
    induction l with
    | nil => intro i s h; simp at h
    | cons y l ih =>
      intro i s h hA
      cases i with
      | zero =>
        rw [List.getElem?_cons_zero] at h
        have := hA.1
        rw [Option.some.inj h] at this
        simpa using this
      | succ i =>
        rw [List.getElem?_cons_succ] at h
        have := ih i (s + 1) h hA.2
        rw [show s + ((i + 1 : Nat) : Int) = s + 1 + (i : Int) by omega]
        exact this
  have := this l i 0 he d5
  rwa [Int.zero_add] at this
/-- where a making began: both states, and what is allowed of room -/
abbrev Gl : Type := Sh × St × St × Int × Int × Int
def PMx (g : Gl) : Int := fl g.2.2.1 48 0 - fl g.2.2.1 64 0 + 200
/-- a definition and the steps of its body -/
def DS (g : Gl) (D P : Int) (L : List Stq) (Kn : List Int) (o : Int) : Prop := ob g.1 D 1 ∧ fl g.2.1 22 D = P ∧ (0 ≤ P ∧ P ≤ 4) ∧ LSq g.1 g.2.1 (fl g.2.1 23 D) (SQ g.1 g.2.1) L ∧ LSq g.1 g.2.1 (fl g.2.1 24 D) (fun r p => ob g.1 r 5 ∧ PRn g.1 g.2.1 g.2.2.1 r p) Kn ∧ fl g.2.1 25 D = o
/-- what making leaves alone: the class -/
def FC (g : Gl) (π : Sh) (σ : St) : Prop := ext g.1 π ∧ (∀ (f : Nat) (i : Int), i < nn g.1 → ¬ (i = 3 ∧ 85 ≤ f ∧ f ≤ 89) → fl σ f i = fl g.2.1 f i) ∧ ∀ a j : Int, a < nn g.1 → ¬ (5 ≤ a ∧ a ≤ 8) → el σ a j = el g.2.1 a j
/-- the reference -/
def FRr (g : Gl) (τ : St) : Prop := (∀ (f : Nat) (i : Int), f ≠ 11 → f ≠ 12 → f ≠ 48 → f ≠ 61 → f ≠ 64 → f ≠ 65 → f ≠ 68 → f ≠ 70 → f ≠ 71 → f < 73 ∨ 83 < f → fl τ f i = fl g.2.2.1 f i) ∧ (∀ a j : Int, ¬ (53 ≤ a ∧ a ≤ 70) → a ≠ 84 → el τ a j = el g.2.2.1 a j) ∧ TX g.2.2.1 τ
theorem FC.hx {g : Gl} {π : Sh} {σ : St} (h : FC g π σ) : HX g.1 g.2.1 π σ := HX.all h.1 (fun f i hf hi => h.2.1 f i hi (by unfold inF at hf; omega)) (fun a j h1 h2 => h.2.2 a j h2 (by omega))
/-- both makers at a turn: t turns and s tasks behind them, at a level -/
def JS (g : Gl) (π : Sh) (σ τ : St) (t s : Nat) (ℓ : Int) : Prop := FC g π σ ∧ FRr g τ ∧ SHs π ∧ (fl σ 85 3 = ℓ ∧ fl τ 70 0 = ℓ ∧ 0 ≤ ℓ ∧ ℓ ≤ 12) ∧ (fl σ 87 3 = fl τ 64 0 ∧ 0 ≤ fl τ 64 0 ∧ fl τ 64 0 ≤ 200) ∧ (fl σ 88 3 = 0 ∧ fl τ 11 0 = 0) ∧ (0 < ℓ → fl σ 86 3 = fl τ 71 0) ∧ (t : Int) + ℓ ≤ 2 * fl τ 64 0 ∧ nn π ≤ g.2.2.2.1 + 2 * fl τ 64 0 ∧ sw π ≤ g.2.2.2.2.1 + 7 * fl τ 64 0 + fl τ 61 0 ∧ 0 ≤ fl τ 61 0 ∧ (0 ≤ fl τ 48 0 ∧ fl τ 48 0 + 200 ≤ PMx g + fl τ 64 0 ∧ PMx g ≤ 102900)
/-- how it ends -/
def AGR (g : Gl) (π : Sh) (σ τ : St) (r p : Int) : Prop := FC g π σ ∧ FRr g τ ∧ SHs π ∧ (fl σ 87 3 = fl τ 64 0 ∧ 0 ≤ fl τ 64 0 ∧ fl τ 64 0 ≤ 200) ∧ fl σ 88 3 = fl τ 11 0 ∧ nn π ≤ g.2.2.2.1 + 402 ∧ sw π ≤ g.2.2.2.2.1 + 1407 + g.2.2.2.2.2 ∧ ((fl τ 11 0 = 0 ∧ ob π r 5 ∧ PRn π σ τ r p ∧ nn π ≤ g.2.2.2.1 + 2 * fl τ 64 0 ∧ sw π ≤ g.2.2.2.2.1 + 7 * fl τ 64 0 + fl τ 61 0 ∧ 0 ≤ fl τ 61 0 ∧ fl τ 61 0 + 2 * (200 - fl τ 64 0) + 10 ≤ g.2.2.2.2.2 ∧ (0 ≤ fl τ 48 0 ∧ fl τ 48 0 + 200 ≤ PMx g + fl τ 64 0 ∧ PMx g ≤ 102900)) ∨ ((5 ≤ fl τ 11 0 ∧ fl τ 11 0 ≤ 10) ∧ r = -1 ∧ p = -1 ∧ fl σ 89 3 = fl τ 12 0))
def FIN (N : Nat) (g : Gl) (π : Sh) (σ τ : St) (t s : Nat) : Prop := ∃ π' σ' τ' r p, Mk_make_28 N (N - t) π σ t = some (π', σ', r) ∧ r_makes_21 N (N - s) τ = some (τ', p) ∧ AGR g π' σ' τ' r p
/-- the level's own: its body, its base, what step is next, its parameters -/
def FM (π : Sh) (σ τ : St) (ℓ D P base j : Int) : Prop := (el σ 6 ℓ = D ∧ el σ 7 ℓ = base ∧ el σ 8 ℓ = j) ∧ 0 ≤ j ∧ 0 ≤ base ∧ base + P + j ≤ fl τ 64 0 + 4 * ℓ ∧ ∀ i, 0 ≤ i → i < P → ob π (el σ 5 (base + i)) 5 ∧ PRn π σ τ (el σ 5 (base + i)) (el τ 53 (4 * ℓ + i))
/-- what is kept below: registers below rb, tasks below T, the pile below Q, values of nodes -/
def KP (ℓ rb T Q vlo lo hi : Int) (π : Sh) (σ τ : St) (π' : Sh) (σ' τ' : St) : Prop := HX π σ π' σ' ∧ TX τ τ' ∧ (∀ i, i ≤ ℓ → el σ' 6 i = el σ 6 i ∧ el σ' 7 i = el σ 7 i) ∧ (∀ i, i < ℓ → el σ' 8 i = el σ 8 i) ∧ (∀ i, i < rb → el σ' 5 i = el σ 5 i) ∧ (∀ i, i < T → el τ' 55 i = el τ 55 i ∧ el τ' 56 i = el τ 56 i) ∧ (∀ i, i < Q → el τ' 54 i = el τ 54 i) ∧ (∀ i, i < 4 * ℓ + 4 → el τ' 53 i = el τ 53 i) ∧ (0 < ℓ → fl τ' 71 0 = fl τ 71 0 ∧ fl σ' 86 3 = fl σ 86 3) ∧ ∀ i, vlo ≤ i → ¬ (lo ≤ i ∧ i < hi) → el τ' 84 i = el τ 84 i
theorem KP.rf (ℓ rb T Q vlo lo hi : Int) (π : Sh) (σ τ : St) : KP ℓ rb T Q vlo lo hi π σ τ π σ τ := ⟨HX.rf _ _, TX.rf _, fun _ _ => ⟨rfl, rfl⟩, fun _ _ => rfl, fun _ _ => rfl, fun _ _ => ⟨rfl, rfl⟩, fun _ _ => rfl, fun _ _ => rfl, fun _ => ⟨rfl, rfl⟩, fun _ _ _ => rfl⟩
theorem KP.tr {ℓ rb rb1 T T1 Q Q1 vlo lo hi lo1 hi1 lo2 hi2 : Int} {π π1 π2 : Sh} {σ τ σ1 τ1 σ2 τ2 : St} (h : KP ℓ rb T Q vlo lo1 hi1 π σ τ π1 σ1 τ1) (k : KP ℓ rb1 T1 Q1 vlo lo2 hi2 π1 σ1 τ1 π2 σ2 τ2) (h1 : rb ≤ rb1) (h2 : T1 ≤ T) (h3 : Q ≤ Q1) (h4 : lo ≤ lo1 ∧ hi1 ≤ hi) (h5 : lo ≤ lo2 ∧ hi2 ≤ hi) : KP ℓ rb T1 Q vlo lo hi π σ τ π2 σ2 τ2 := by
  obtain ⟨a1, a2, a3, a4, a5, a6, a7, a8, a9, a10⟩ := h
  obtain ⟨b1, b2, b3, b4, b5, b6, b7, b8, b9, b10⟩ := k
  exact ⟨a1.tr b1, a2.tr b2, fun i hi => ⟨(b3 i hi).1.trans (a3 i hi).1, (b3 i hi).2.trans (a3 i hi).2⟩, fun i hi => (b4 i hi).trans (a4 i hi), fun i hi => (b5 i (by omega)).trans (a5 i hi), fun i hi => ⟨(b6 i hi).1.trans (a6 i (by omega)).1, (b6 i hi).2.trans (a6 i (by omega)).2⟩, fun i hi => (b7 i (by omega)).trans (a7 i hi), fun i hi => (b8 i hi).trans (a8 i hi), fun hl => ⟨(b9 hl).1.trans (a9 hl).1, (b9 hl).2.trans (a9 hl).2⟩, fun i hi hn => (b10 i hi (by omega)).trans (a10 i hi (by omega))⟩
theorem KP.wk {ℓ rb T T' Q vlo lo hi : Int} {π π' : Sh} {σ τ σ' τ' : St} (h : KP ℓ rb T Q vlo lo hi π σ τ π' σ' τ') (hT : T' ≤ T) : KP ℓ rb T' Q vlo lo hi π σ τ π' σ' τ' := ⟨h.1, h.2.1, h.2.2.1, h.2.2.2.1, h.2.2.2.2.1, fun i hi => h.2.2.2.2.2.1 i (by omega), h.2.2.2.2.2.2⟩
theorem KP.wk2 {ℓ rb T Q Q' vlo lo hi : Int} {π π' : Sh} {σ τ σ' τ' : St} (h : KP ℓ rb T Q vlo lo hi π σ τ π' σ' τ') (hT : Q' ≤ Q) : KP ℓ rb T Q' vlo lo hi π σ τ π' σ' τ' := ⟨h.1, h.2.1, h.2.2.1, h.2.2.2.1, h.2.2.2.2.1, h.2.2.2.2.2.1, fun i hi => h.2.2.2.2.2.2.1 i (by omega), h.2.2.2.2.2.2.2⟩
/-- an operand's value -/
def OVa (π : Sh) (σ τ : St) (base rb : Int) (Kn : List Int) (o p : Int) : Prop := (o < 0 ∧ -100000 ≤ o ∧ Kn[(-o - 1).toNat]? = some p) ∨ ((0 ≤ o ∧ o < 100000) ∧ base + o < rb ∧ ob π (el σ 5 (base + o)) 5 ∧ PRn π σ τ (el σ 5 (base + o)) p)
theorem OVa.kp {ℓ rb rb' T Q vlo lo hi base o p : Int} {Kn : List Int} {π π' : Sh} {σ τ σ' τ' : St} (h : OVa π σ τ base rb Kn o p) (k : KP ℓ rb T Q vlo lo hi π σ τ π' σ' τ') (hr : rb ≤ rb') : OVa π' σ' τ' base rb' Kn o p := by
  rcases h with h | ⟨h1, h2, h3, h4⟩
  · exact Or.inl h
  · refine Or.inr ⟨h1, by omega, ?_, ?_⟩
    · rw [k.2.2.2.2.1 _ h2]; exact h3.ext k.1.1
    · rw [k.2.2.2.2.1 _ h2]; exact h4.grow k.1 k.2.1
/-- the tasks that stand above T, the first one highest -/
def SK (τ : St) (T : Int) : List (Int × Int) → Prop
  | [] => True
  | x :: ts => (el τ 56 (T + ts.length) = x.1 ∧ el τ 55 (T + ts.length) = x.2) ∧ SK τ T ts
theorem SK.app {τ : St} {T : Int} : ∀ {a b : List (Int × Int)}, SK τ T (a ++ b) → SK τ (T + b.length) a ∧ SK τ T b
  | [], _, h => ⟨trivial, h⟩
  | x :: a, b, h => by
    have h1 : el τ 56 (T + ((a ++ b).length : Int)) = x.1 ∧ el τ 55 (T + ((a ++ b).length : Int)) = x.2 := h.1
    have h2 : SK τ T (a ++ b) := h.2
    obtain ⟨k1, k2⟩ := SK.app h2
    have e : T + ((a ++ b).length : Int) = T + (b.length : Int) + (a.length : Int) := by rw [List.length_append]; omega
    rw [e] at h1
    exact ⟨⟨h1, k1⟩, k2⟩
theorem SK.cg {τ τ' : St} {T : Int} : ∀ {a : List (Int × Int)}, (∀ i, i < T + a.length → el τ' 55 i = el τ 55 i ∧ el τ' 56 i = el τ 56 i) → SK τ T a → SK τ' T a
  | [], _, _ => trivial
  | x :: a, h, k => by
    have e := h (T + a.length) (by simp only [List.length_cons]; omega)
    exact ⟨by rw [e.1, e.2]; exact k.1, SK.cg (fun i hi => h i (by simp only [List.length_cons]; omega)) k.2⟩
/-- operands on the pile, and in the values of nodes -/
def PVs (π : Sh) (σ τ : St) (base rb : Int) (Kn : List Int) (Q : Int) (l : List Int) : Prop := At (fun i o => OVa π σ τ base rb Kn o (el τ 54 i)) Q l
def AVs (π : Sh) (σ τ : St) (base rb : Int) (Kn : List Int) (l : List (Int × Int)) : Prop := ∀ x ∈ l, OVa π σ τ base rb Kn x.2 (el τ 84 x.1)
theorem PVs.kp {ℓ rb rb' T Q Q' vlo lo hi base : Int} {Kn l : List Int} {π π' : Sh} {σ τ σ' τ' : St} (h : PVs π σ τ base rb Kn Q l) (k : KP ℓ rb T Q' vlo lo hi π σ τ π' σ' τ') (hr : rb ≤ rb') (hq : Q + l.length ≤ Q') : PVs π' σ' τ' base rb' Kn Q l :=
  At.mono (fun i o _ h2 _ ho => by rw [k.2.2.2.2.2.2.1 i (by omega)]; exact ho.kp k hr) h
theorem AVs.kp {ℓ rb rb' T Q vlo lo hi base : Int} {Kn : List Int} {l : List (Int × Int)} {π π' : Sh} {σ τ σ' τ' : St} (h : AVs π σ τ base rb Kn l) (k : KP ℓ rb T Q vlo lo hi π σ τ π' σ' τ') (hr : rb ≤ rb') (hq : ∀ x ∈ l, vlo ≤ x.1 ∧ ¬ (lo ≤ x.1 ∧ x.1 < hi)) : AVs π' σ' τ' base rb' Kn l := fun x hx => by
  rw [k.2.2.2.2.2.2.2.2.2 x.1 (hq x hx).1 (hq x hx).2]; exact (h x hx).kp k hr
theorem FM.kp {ℓ D P base j j' rb T Q vlo lo hi : Int} {π π' : Sh} {σ τ σ' τ' : St} (h : FM π σ τ ℓ D P base j) (k : KP ℓ rb T Q vlo lo hi π σ τ π' σ' τ') (hP : P ≤ 4) (hr : base + P + j ≤ rb) (h8 : el σ' 8 ℓ = j') (hj : j ≤ j') (hC : fl τ 64 0 + (j' - j) ≤ fl τ' 64 0) : FM π' σ' τ' ℓ D P base j' := by
  obtain ⟨⟨a1, a2, a3⟩, b0, b, c, d⟩ := h
  obtain ⟨k1, k2, k3, k4, k5, k6, k7, k8, k9, k10⟩ := k
  refine ⟨⟨by rw [(k3 ℓ (Int.le_refl _)).1]; exact a1, by rw [(k3 ℓ (Int.le_refl _)).2]; exact a2, h8⟩, by omega, b, by omega, fun i i0 i1 => ?_⟩
  rw [k5 _ (by omega), k8 _ (by omega)]
  exact ⟨(d i i0 i1).1.ext k1.1, (d i i0 i1).2.grow k1 k2⟩
def NT (τp : St) (g : Gl) (lo hi : Int) : Prop := ∀ a i : Int, 85 ≤ a → a ≤ 94 → lo ≤ i → i < hi → el g.2.2.1 a i = el τp a i
def SG (L : List Stq) (j : Int) (seg : List Stq) : Prop := ∃ pre post, L = pre ++ (seg ++ post) ∧ (pre.length : Int) = j
/-- how a run of tasks ends -/
def OKK (g : Gl) (ℓ P base j T Q vlo lo hi : Int) (m k : Nat) (e : Int) (Kn outs : List Int) (avp : List (Int × Int)) (π : Sh) (σ τ : St) (s : Nat) (π' : Sh) (σ' τ' : St) (t' s' : Nat) : Prop := JS g π' σ' τ' t' s' ℓ ∧ KP ℓ (base + P + j) T Q vlo lo hi π σ τ π' σ' τ' ∧ el σ' 8 ℓ = j + m ∧ fl τ' 65 0 = T ∧ fl τ' 68 0 = Q + outs.length ∧ PVs π' σ' τ' base (base + P + (j + m)) Kn Q outs ∧ AVs π' σ' τ' base (base + P + (j + m)) Kn avp ∧ fl τ 64 0 + m ≤ fl τ' 64 0 ∧ fl τ' 61 0 + e ≤ fl τ 61 0 + 2 * (fl τ' 64 0 - fl τ 64 0) ∧ (s' : Int) ≤ s + k + 100000 * (fl τ' 64 0 - fl τ 64 0)
/-- the tasks ts do what the steps seg do: they take ins off the pile and lay outs there, want the values avq of nodes and leave avp -/
def TKS (N : Nat) (U : Gl → Int → Stq → Prop) (ℓ : Int) (τp : St) (vlo lo hi P : Int) (Kn : List Int) (j : Int) (seg : List Stq) (u v : Int) (k : Nat) (e δ : Int) (ts : List (Int × Int)) (ins outs : List Int) (avq avp : List (Int × Int)) : Prop :=
  ∀ (g : Gl) (π : Sh) (σ τ : St) (t s : Nat) (D : Int) (L : List Stq) (Kn' : List Int) (o base T Q : Int), NT τp g lo hi → DS g D P L Kn' o → (∀ x ∈ L, x.1 = 99 → U g vlo x) → SG L j seg → Kn <+: Kn' → g.2.2.2.2.2 ≤ 210000 → JS g π σ τ t s ℓ → FM π σ τ ℓ D P base j → fl τ 65 0 = T + ts.length → SK τ T ts → fl τ 68 0 = Q + ins.length → PVs π σ τ base (base + P + j) Kn' Q ins → AVs π σ τ base (base + P + j) Kn' avq → (0 ≤ T ∧ T + u ≤ 20000) → (0 ≤ Q ∧ Q + v ≤ 20000) → (s : Int) + k + 100000 * (200 - fl τ 64 0) ≤ 30000000 → fl τ 61 0 + 2 * (200 - fl τ 64 0) + 10 + δ ≤ g.2.2.2.2.2 →
  (∀ π' σ' τ' t' s', OKK g ℓ P base j T Q vlo lo hi seg.length k e Kn' outs avp π σ τ s π' σ' τ' t' s' → FIN N g π' σ' τ' t' s') → FIN N g π σ τ t s
