/-! both at a place of a text -/
def XFt (x : Int) (π : Sh) (σ : St) (π' : Sh) (σ' : St) : Prop := ext π π' ∧ (∀ (f : Nat) (i : Int), i < nn π → ¬ (i = 50 ∧ 222 ≤ f ∧ f ≤ 225) → ¬ (i = 1 ∧ 182 ≤ f ∧ f ≤ 184) → ¬ (i = x ∧ f ≤ 2) → fl σ' f i = fl σ f i) ∧ (∀ a j : Int, a < nn π → a ≠ fl σ 1 x → el σ' a j = el σ a j) ∧ (fl σ' 1 x = fl σ 1 x ∨ nn π ≤ fl σ' 1 x)
theorem XFt.rf (x : Int) (π : Sh) (σ : St) : XFt x π σ π σ := ⟨ext.rf _, fun _ _ _ _ _ _ => rfl, fun _ _ _ _ => rfl, Or.inl rfl⟩
theorem XFt.tr {x : Int} {π π1 π2 : Sh} {σ σ1 σ2 : St} (h : XFt x π σ π1 σ1) (k : XFt x π1 σ1 π2 σ2) : XFt x π σ π2 σ2 := by
  have e := h.1.1
  refine ⟨h.1.tr k.1, fun f i a b c d => (k.2.1 f i (by omega) b c d).trans (h.2.1 f i a b c d), fun a j ha hx => (k.2.2.1 a j (by omega) (by rcases h.2.2.2 with q | q <;> omega)).trans (h.2.2.1 a j ha hx), ?_⟩
  rcases k.2.2.2 with q | q
  · rw [q]; exact h.2.2.2
  · exact Or.inr (by omega)
theorem XFt.st {x : Int} {π π1 : Sh} {σ σ1 σ2 : St} (h : XFt x π σ π1 σ1) (h1 : ∀ (f : Nat) (i : Int), ¬ (i = 50 ∧ 222 ≤ f ∧ f ≤ 225) → ¬ (i = 1 ∧ 182 ≤ f ∧ f ≤ 184) → fl σ2 f i = fl σ1 f i) (h2 : ∀ a j : Int, el σ2 a j = el σ1 a j) (hx : x ≠ 1 ∧ x ≠ 50) : XFt x π σ π1 σ2 := h.tr ⟨ext.rf _, fun f i _ b c _ => h1 f i b c, fun a j _ _ => h2 a j, Or.inl (h1 1 x (by omega) (by omega))⟩
theorem XFt.xf {x : Int} {π π1 : Sh} {σ σ1 σ2 : St} (h : XFt x π σ π1 σ1) (k : XFc σ1 σ2) (hx : x ≠ 1 ∧ x ≠ 50) : XFt x π σ π1 σ2 := h.st (fun f i a b => k.1 f i (by omega) (by omega)) k.2 hx
theorem XFt.nw {x n0 : Int} {π π1 π2 : Sh} {σ σ1 σ2 : St} (h : XFt x π σ π1 σ1) (k : FRn n0 π1 σ1 π2 σ2) (hn : nn π1 ≤ n0) (hx : x < nn π1) : XFt x π σ π2 σ2 := h.tr ⟨k.1, fun f i hi _ _ _ => k.2.1 f i (by omega), fun a j ha _ => k.2.2 a j (by omega), Or.inl (k.2.1 1 x (by omega))⟩
theorem XFt.ls {x : Int} {π π1 π2 : Sh} {σ σ1 σ2 : St} (h : XFt x π σ π1 σ1) (k : FLs x π1 σ1 π2 σ2) : XFt x π σ π2 σ2 := h.tr ⟨k.1, fun f i hi _ _ hx => k.2.1 f i hi hx, k.2.2.1, k.2.2.2⟩
section XS1
variable {Xo : Int → Prop}
/-- a body moves along -/
theorem BDy.mv {π π' : Sh} {σ σ' τ τ' : St} {D P : Int} {L : List Stq} {Kn : List Int} (h : BDy Xo π σ τ D P L Kn) (hp : HP π σ π' σ') (ht : TX τ τ') (hD : fl σ' 22 D = fl σ 22 D ∧ fl σ' 23 D = fl σ 23 D ∧ fl σ' 24 D = fl σ 24 D) (h1 : ∀ f x, f = 1 ∨ f = 2 → x = fl σ 23 D ∨ x = fl σ 24 D ∨ x = 42 ∨ x = 43 → fl σ' f x = fl σ f x) (h2 : ∀ x j, x = fl σ 23 D ∨ x = fl σ 24 D → 0 ≤ fl σ 1 x → el σ' (fl σ 1 x) j = el σ (fl σ 1 x) j) : BDy Xo π' σ' τ' D P L Kn := by
  obtain ⟨⟨b1, b2, b3, b4⟩, b5, b6, b7, b8, b9, b10, b11, b12⟩ := h
  have e42 := h1 1 42 (Or.inl rfl) (by simp)
  have e43 := h1 1 43 (Or.inl rfl) (by simp)
  have nge := hp.1.1
  unfold BDy
  rw [hD.1, hD.2.1, hD.2.2, h1 1 _ (Or.inl rfl) (Or.inl rfl), h1 1 _ (Or.inl rfl) (Or.inr (Or.inl rfl)), e42, e43]
  exact ⟨⟨b1.ext hp.1, b2, b3, b4⟩, b5.keep hp.1 ⟨h1 1 _ (Or.inl rfl) (Or.inl rfl), h1 2 _ (Or.inr rfl) (Or.inl rfl)⟩ (fun h0 j => h2 _ j (Or.inl rfl) h0) ⟨e42, e43⟩ (fun r e _ hr => ⟨hr.1.growP hp, hr.2.hp hp hr.1.ob'.2.1⟩), b6.keep hp.1 ⟨h1 1 _ (Or.inl rfl) (Or.inr (Or.inl rfl)), h1 2 _ (Or.inr rfl) (Or.inr (Or.inl rfl))⟩ (fun h0 j => h2 _ j (Or.inr rfl) h0) ⟨e42, e43⟩ (fun r e _ hr => ⟨hr.1.ext hp.1, hr.2.mv hp ht⟩), b7, b8, by omega, b10, fun x hx => by have := b11 x hx; omega, b12⟩
theorem BDy.b {π : Sh} {σ τ : St} {D P : Int} {L : List Stq} {Kn : List Int} (h : BDy Xo π σ τ D P L Kn) : (56 ≤ D ∧ D < nn π) ∧ (56 ≤ fl σ 23 D ∧ fl σ 23 D < nn π) ∧ (56 ≤ fl σ 24 D ∧ fl σ 24 D < nn π) ∧ fl σ 1 (fl σ 23 D) < nn π ∧ fl σ 1 (fl σ 24 D) < nn π := ⟨⟨h.2.2.2.2.2.2.1.2.2, h.1.1.2.1⟩, ⟨h.2.2.2.2.2.2.1.1, h.2.1.1.1.2.1⟩, ⟨h.2.2.2.2.2.2.1.2.1, h.2.2.1.1.1.2.1⟩, h.2.1.lt, h.2.2.1.lt⟩
/-- only places, faults and signs of the text changed -/
theorem BDy.st {π : Sh} {σ σ' τ τ' : St} {D P : Int} {L : List Stq} {Kn : List Int} (h : BDy Xo π σ τ D P L Kn) (ht : TX τ τ') (h1 : ∀ (f : Nat) (i : Int), ¬ (i = 50 ∧ 222 ≤ f ∧ f ≤ 225) → ¬ (i = 1 ∧ 182 ≤ f ∧ f ≤ 184) → fl σ' f i = fl σ f i) (h2 : ∀ a j : Int, el σ' a j = el σ a j) : BDy Xo π σ' τ' D P L Kn := by
  obtain ⟨b1, b2, b3, -⟩ := h.b
  exact h.mv ⟨ext.rf _, fun f i a b _ => h1 f i (by unfold inF at a; omega) (by unfold inF at a; omega), fun a j _ _ _ => h2 a j⟩ ht ⟨h1 22 D (by omega) (by omega), h1 23 D (by omega) (by omega), h1 24 D (by omega) (by omega)⟩ (fun f x hf hx => h1 f x (by omega) (by omega)) (fun x j _ _ => h2 _ j)
/-- only new cells -/
theorem BDy.nw {π π' : Sh} {σ σ' τ : St} {D P n0 : Int} {L : List Stq} {Kn : List Int} (h : BDy Xo π σ τ D P L Kn) (hn : nn π ≤ n0) (h56 : 56 ≤ nn π) (k : FRn n0 π σ π' σ') : BDy Xo π' σ' τ D P L Kn := by
  obtain ⟨b1, b2, b3, b4, b5⟩ := h.b
  refine h.mv ⟨k.1, fun f i _ _ hi => k.2.1 f i (by omega), fun a j _ ha _ => k.2.2 a j (by omega)⟩ (TX.rf τ) ⟨k.2.1 22 D (by omega), k.2.1 23 D (by omega), k.2.1 24 D (by omega)⟩ (fun f x hf hx => k.2.1 f x (by omega)) (fun x j hx h0 => k.2.2 _ j ?_)
  rcases hx with rfl | rfl <;> omega
/-- both stand in a text, and no fault is told -/
def XS (Xo : Int → Prop) (π : Sh) (σ τ : St) (D P : Int) (L : List Stq) (Kn : List Int) (st cl : Int) : Prop := SHs π ∧ XB σ τ st cl ∧ fl τ 2 0 = fl σ 222 50 ∧ (fl σ 182 1 = 0 ∧ fl τ 11 0 = 0) ∧ (fl σ 184 1 = fl τ 13 0 ∧ 0 ≤ fl τ 13 0 ∧ fl τ 13 0 ≤ 20) ∧ (fl σ 224 50 = fl τ 47 0 ∧ 0 ≤ fl τ 47 0 ∧ fl τ 47 0 ≤ fl τ 2 0) ∧ fl σ 221 50 = D ∧ BDy Xo π σ τ D P L Kn ∧ 0 ≤ fl τ 16 0
theorem TX.rd {lo d : Int} {τ τ' : St} (h : RDr lo d τ τ') : TX τ τ' := TX.eq (h.1 48 0 (by omega) (by decide) (by decide) (by decide) (by decide)) (h.1 61 0 (by omega) (by decide) (by decide) (by decide) (by decide)) (fun a j x y => h.2.1 a j (by omega) (by omega))
theorem bA_rd {lo d : Int} {τ τ' : St} (hr : RDr lo d τ τ') (k : Int) : bA τ' k = bA τ k := by unfold bA; rw [hr.1 1 0 (by omega) (by decide) (by decide) (by decide) (by decide), hr.2.1 97 k (by omega) (by omega)]
theorem dvl_rd {lo d : Int} {τ τ' : St} (hr : RDr lo d τ τ') (k : Int) : ∀ m, dvl τ' k m = dvl τ k m
  | 0 => rfl
  | m + 1 => by show dvl τ' k m * 10 + bA τ' (k + m) - 48 = dvl τ k m * 10 + bA τ (k + m) - 48; rw [bA_rd hr, dvl_rd hr k m]
theorem XB.mv {σ σ' τ τ' : St} {st cl lo d : Int} (h : XB σ τ st cl) (hr : RDr lo d τ τ') (h1 : fl σ' 181 1 = fl σ 181 1 ∧ fl σ' 223 50 = fl σ 223 50 ∧ ∀ j, el σ' 2 j = el σ 2 j) (h2 : st ≤ fl σ' 222 50 ∧ fl σ' 222 50 ≤ cl) : XB σ' τ' st cl := by
  obtain ⟨a, ⟨b1, b2, b3, b4, b5⟩, c, d0⟩ := h
  have s1 := hr.1 1 0 (by omega) (by decide) (by decide) (by decide) (by decide)
  refine ⟨?_, ⟨by rw [h1.2.1]; exact b1, b2, h2.1, h2.2, by rw [s1]; exact b5⟩, by rw [bA_rd hr]; exact c, fun i x y => by rw [bA_rd hr]; exact d0 i x y⟩
  unfold RTp
  rw [h1.1, s1]
  obtain ⟨p, q, r, s⟩ := a
  exact ⟨p, q, r, fun j j0 j1 => by rw [h1.2.2, hr.2.1 97 j (by omega) (by omega)]; exact s j j0 j1⟩
/-- what making reads of a text's node: next of the node itself is left open -/
def TXq (N : Nat) (τ : St) (lo hi P j : Int) (seg : List Stq) (n o u v : Int) (k : Nat) : Prop := (∀ x ∈ seg, x.1 ≠ 99) ∧ ∀ (U : Gl → Int → Stq → Prop) (ℓ vlo : Int) (Kn : List Int) (y : Int), TKS N U ℓ (se τ 85 n y) vlo lo hi P Kn j seg u v k 1 0 [(1, n)] [] [o] [] []
/-- tables that are the same but for next of the node -/
theorem TXq.cg {N : Nat} {τ τ' : St} {lo hi lo' hi' P j n o u v u' v' : Int} {seg : List Stq} {k k' : Nat} (h : TXq N τ lo hi P j seg n o u v k) (ht : ∀ a i : Int, 85 ≤ a → a ≤ 94 → lo ≤ i → i < hi → ¬ (a = 85 ∧ i = n) → el τ' a i = el τ a i) (hl : lo' ≤ lo ∧ hi ≤ hi') (hu : u ≤ u' ∧ v ≤ v' ∧ k ≤ k') : TXq N τ' lo' hi' P j seg n o u' v' k' := And.intro h.1 fun U ℓ vlo Kn y => (h.2 U ℓ vlo Kn y).mono hu.2.2 hl.1 hl.2 (fun a i x1 x2 x3 x4 => by
    rw [el_se, el_se]
    by_cases c : a = 85 ∧ i = n
    · rw [if_pos c, if_pos c]
    · rw [if_neg c, if_neg c]; exact ht a i x1 x2 x3 x4 c) (List.prefix_refl _) hu.1 hu.2.1 (Int.le_refl _) (Int.le_refl _) (fun _ hx => hx) (fun _ hx => hx)
/-- the same, for one task alone: next of the node as it stands -/
theorem TXq.use {N : Nat} {τ : St} {lo hi P j n o u v : Int} {seg : List Stq} {k : Nat} (h : TXq N τ lo hi P j seg n o u v k) (U : Gl → Int → Stq → Prop) (ℓ vlo : Int) (Kn : List Int) : TKS N U ℓ τ vlo lo hi P Kn j seg u v k 1 0 [(1, n)] [] [o] [] [] := (h.2 U ℓ vlo Kn (el τ 85 n)).mono (Nat.le_refl _) (Int.le_refl _) (Int.le_refl _) (fun a i _ _ _ _ => by
    rw [el_se]
    by_cases c : a = 85 ∧ i = n
    · rw [if_pos c, c.1, c.2]
    · rw [if_neg c]) (List.prefix_refl _) (Int.le_refl _) (Int.le_refl _) (Int.le_refl _) (Int.le_refl _) (fun _ hx => hx) (fun _ hx => hx)
end XS1
