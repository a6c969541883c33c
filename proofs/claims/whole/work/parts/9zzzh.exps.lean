/-! expressions: what reading leaves alone, the state of reading -/
/-- class: steps' list x and known patterns' list y grow, the scanner and what was found move -/
def EFt (x y : Int) (π : Sh) (σ : St) (π' : Sh) (σ' : St) : Prop := ext π π' ∧ (∀ (f : Nat) (i : Int), i < nn π → ¬ (i = 50 ∧ 221 ≤ f ∧ f ≤ 225) → ¬ (i = 1 ∧ 182 ≤ f ∧ f ≤ 190) → ¬ (i = 44 ∧ (f = 145 ∨ f = 146)) → ¬ ((i = x ∨ i = y) ∧ f ≤ 2) → fl σ' f i = fl σ f i) ∧ (∀ a j : Int, a < nn π → a ≠ fl σ 1 x → a ≠ fl σ 1 y → el σ' a j = el σ a j) ∧ (fl σ' 1 x = fl σ 1 x ∨ nn π ≤ fl σ' 1 x) ∧ (fl σ' 1 y = fl σ 1 y ∨ nn π ≤ fl σ' 1 y)
theorem EFt.rf (x y : Int) (π : Sh) (σ : St) : EFt x y π σ π σ := ⟨ext.rf _, fun _ _ _ _ _ _ _ => rfl, fun _ _ _ _ _ => rfl, Or.inl rfl, Or.inl rfl⟩
theorem EFt.tr {x y : Int} {π π1 π2 : Sh} {σ σ1 σ2 : St} (h : EFt x y π σ π1 σ1) (k : EFt x y π1 σ1 π2 σ2) : EFt x y π σ π2 σ2 := by
  have e := h.1.1
  refine ⟨h.1.tr k.1, fun f i a b c d g => (k.2.1 f i (by omega) b c d g).trans (h.2.1 f i a b c d g), fun a j b c d => ?_, ?_, ?_⟩
  · rw [k.2.2.1 a j (by omega) (by rcases h.2.2.2.1 with q | q <;> omega) (by rcases h.2.2.2.2 with q | q <;> omega), h.2.2.1 a j b c d]
  · rcases k.2.2.2.1 with q | q
    · rw [q]; exact h.2.2.2.1
    · right; omega
  · rcases k.2.2.2.2 with q | q
    · rw [q]; exact h.2.2.2.2
    · right; omega
theorem EFt.xt {x y : Int} {π π' : Sh} {σ σ' : St} (h : XFt x π σ π' σ') (hy : y < nn π ∧ y ≠ x ∧ 56 ≤ y) : EFt x y π σ π' σ' := ⟨h.1, fun f i a b c _ g => h.2.1 f i a (by omega) (by omega) (by omega), fun a j b c _ => h.2.2.1 a j b c, h.2.2.2, Or.inl (h.2.1 1 y hy.1 (by omega) (by omega) (by omega))⟩
theorem EFt.lx {x y : Int} {π π' : Sh} {σ σ' : St} (h : FLs x π σ π' σ') (hy : y < nn π ∧ y ≠ x) : EFt x y π σ π' σ' := ⟨h.1, fun f i a _ _ _ g => h.2.1 f i a (by omega), fun a j b c _ => h.2.2.1 a j b c, h.2.2.2, Or.inl (h.2.1 1 y hy.1 (by omega))⟩
theorem EFt.ly {x y : Int} {π π' : Sh} {σ σ' : St} (h : FLs y π σ π' σ') (hx : x < nn π ∧ x ≠ y) : EFt x y π σ π' σ' := ⟨h.1, fun f i a _ _ _ g => h.2.1 f i a (by omega), fun a j b _ c => h.2.2.1 a j b c, Or.inl (h.2.1 1 x hx.1 (by omega)), h.2.2.2⟩
/-- fields of the scanner and of the reader alone -/
def ERf (σ σ' : St) : Prop := (∀ (f : Nat) (i : Int), ¬ (i = 50 ∧ 221 ≤ f ∧ f ≤ 225) → ¬ (i = 1 ∧ 182 ≤ f ∧ f ≤ 190) → ¬ (i = 44 ∧ (f = 145 ∨ f = 146)) → fl σ' f i = fl σ f i) ∧ ∀ a j : Int, el σ' a j = el σ a j
theorem ERf.rf (σ : St) : ERf σ σ := ⟨fun _ _ _ _ _ => rfl, fun _ _ => rfl⟩
theorem ERf.tr {σ σ1 σ2 : St} (h : ERf σ σ1) (k : ERf σ1 σ2) : ERf σ σ2 := ⟨fun f i a b c => (k.1 f i a b c).trans (h.1 f i a b c), fun a j => (k.2 a j).trans (h.2 a j)⟩
theorem ERf.sc {σ σ' : St} (h : SFc σ σ') : ERf σ σ' := ⟨fun f i _ b _ => h.1 f i (by omega), h.2⟩
theorem ERf.xf {σ σ' : St} (h : XFc σ σ') : ERf σ σ' := ⟨fun f i a b _ => h.1 f i (by omega) (by omega), h.2⟩
theorem ERf.sf (σ : St) (f : Nat) (i v : Int) (h : (i = 50 ∧ 221 ≤ f ∧ f ≤ 225) ∨ (i = 1 ∧ 182 ≤ f ∧ f ≤ 190) ∨ (i = 44 ∧ (f = 145 ∨ f = 146))) : ERf σ (sf σ f i v) := ⟨fun g j a b c => by rw [fl_sf, if_neg (by omega)], fun _ _ => rfl⟩
theorem EFt.rd {x y : Int} {π : Sh} {σ σ' : St} (h : ERf σ σ') (hx : 56 ≤ x ∧ 56 ≤ y) : EFt x y π σ π σ' := ⟨ext.rf _, fun f i _ b c d _ => h.1 f i b c d, fun a j _ _ _ => h.2 a j, Or.inl (h.1 1 x (by omega) (by omega) (by omega)), Or.inl (h.1 1 y (by omega) (by omega) (by omega))⟩
/-- new cells -/
theorem EFt.nw {x y n0 : Int} {π π' : Sh} {σ σ' : St} (h : FRn n0 π σ π' σ') (hn : nn π ≤ n0) (hx : x < nn π ∧ y < nn π) : EFt x y π σ π' σ' := ⟨h.1, fun f i a _ _ _ _ => h.2.1 f i (by omega), fun a j b _ _ => h.2.2 a j (by omega), Or.inl (h.2.1 1 x (by omega)), Or.inl (h.2.1 1 y (by omega))⟩
/-- cells from n0 on change, where n0 is the end of an earlier state -/
theorem EFt.own {x y : Int} {π0 π π' : Sh} {σ0 σ σ' : St} (h : EFt x y π0 σ0 π σ) (k : FRn (nn π0) π σ π' σ') (hx : fl σ' 1 x = fl σ 1 x ∧ fl σ' 1 y = fl σ 1 y) : EFt x y π0 σ0 π' σ' := ⟨h.1.tr k.1, fun f i a b c d g => (k.2.1 f i a).trans (h.2.1 f i a b c d g), fun a j ha hx' hy' => (k.2.2 a j ha).trans (h.2.2.1 a j ha hx' hy'), by rw [hx.1]; exact h.2.2.2.1, by rw [hx.2]; exact h.2.2.2.2⟩
/-- room -/
def RmE (x y : Int) (π : Sh) (σ : St) (π' : Sh) (σ' : St) (A B : Int) : Prop := (nn π' : Int) ≤ nn π + A ∧ (sw π' : Int) + 4 * cpc π σ x + 4 * cpc π σ y ≤ sw π + 4 * cpc π' σ' x + 4 * cpc π' σ' y + B
theorem RmE.tr {x y A B A' B' : Int} {π π1 π2 : Sh} {σ σ1 σ2 : St} (h : RmE x y π σ π1 σ1 A B) (k : RmE x y π1 σ1 π2 σ2 A' B') : RmE x y π σ π2 σ2 (A + A') (B + B') := ⟨by have := h.1; have := k.1; omega, by have := h.2; have := k.2; omega⟩
theorem RmE.mono {x y A B A' B' : Int} {π π1 : Sh} {σ σ1 : St} (h : RmE x y π σ π1 σ1 A B) (h1 : A ≤ A') (h2 : B ≤ B') : RmE x y π σ π1 σ1 A' B' := ⟨by have := h.1; omega, by have := h.2; omega⟩
theorem RmE.rf (x y : Int) (π : Sh) (σ : St) : RmE x y π σ π σ 0 0 := ⟨by omega, by omega⟩
theorem cpc_eq {π π' : Sh} {σ σ' : St} {x : Int} (h : fl σ' 1 x = fl σ 1 x) (he : ext π π') (hl : fl σ 1 x < nn π) : cpc π' σ' x = cpc π σ x := by
  unfold cpc
  rw [h]
  by_cases c : fl σ 1 x < 0
  · rw [if_pos c, if_pos c]
  · rw [if_neg c, if_neg c, (he.2.2 _ hl).2]
theorem RmE.xt {x y A B : Int} {π π' : Sh} {σ σ' : St} (h : RmX x π σ π' σ' A B) (hy : fl σ' 1 y = fl σ 1 y) (he : ext π π') (hl : fl σ 1 y < nn π) : RmE x y π σ π' σ' A B := ⟨h.1, by have := cpc_eq hy he hl; have := h.2; omega⟩
theorem RmE.same {x y A B : Int} {π π' : Sh} {σ σ' : St} (hx : fl σ' 1 x = fl σ 1 x ∧ fl σ' 1 y = fl σ 1 y) (he : ext π π') (hl : fl σ 1 x < nn π ∧ fl σ 1 y < nn π) (hn : (nn π' : Int) ≤ nn π + A) (hw : (sw π' : Int) ≤ sw π + B) : RmE x y π σ π' σ' A B := ⟨hn, by have := cpc_eq hx.1 he hl.1; have := cpc_eq hx.2 he hl.2; omega⟩
/-- the base of an expression: class, reference, definition, its parameters -/
abbrev Bse : Type := Sh × St × St × Int × Int
def bD (b : Bse) : Int := b.2.2.2.1
def bP (b : Bse) : Int := b.2.2.2.2
def bX (b : Bse) : Int := fl b.2.1 23 (bD b)
def bY (b : Bse) : Int := fl b.2.1 24 (bD b)
def bV (b : Bse) : Int := fl b.2.2.1 16 0
/-- a definition of both -/
def DFe (b : Bse) (e : Int × Int) : Prop := ob b.1 e.1 1 ∧ RNm (fl b.2.1 20 e.1) (el b.2.2.1 83 e.2) (el b.2.2.1 82 e.2) ∧ fl b.2.1 22 e.1 = el b.2.2.1 81 e.2 ∧ (0 ≤ fl b.2.1 22 e.1 ∧ fl b.2.1 22 e.1 ≤ 4) ∧ (0 ≤ e.2 ∧ e.2 < 6000) ∧ (fl b.2.1 22 e.1 = 0 → ob b.1 (fl b.2.1 26 e.1) 5 ∧ PRn b.1 b.2.1 b.2.2.1 (fl b.2.1 26 e.1) (el b.2.2.1 79 e.2))
/-- what stands when an expression begins -/
def CTX (b : Bse) (dl : List (Int × Int)) : Prop := (FNc b.2.1 ∧ FNr b.2.2.1) ∧ (56 ≤ bD b ∧ bD b < nn b.1) ∧ (56 ≤ bX b ∧ bX b < nn b.1 ∧ 56 ≤ bY b ∧ bY b < nn b.1 ∧ bX b ≠ bY b) ∧ (fl b.2.1 1 (bX b) < 0 ∧ fl b.2.1 1 (bY b) < 0) ∧ ((0 ≤ bP b ∧ bP b ≤ 4) ∧ fl b.2.1 22 (bD b) = bP b ∧ fl b.2.2.1 38 0 = bP b ∧ ob b.1 (fl b.2.1 21 (bD b)) 23 ∧ ln b.1 (fl b.2.1 21 (bD b)) = 4 ∧ ∀ i : Int, 0 ≤ i → i < bP b → RNm (el b.2.1 (fl b.2.1 21 (bD b)) i) (el b.2.2.1 76 i) (el b.2.2.1 75 i)) ∧ (ob b.1 43 0 ∧ fl b.2.1 2 43 = dl.length ∧ fl b.2.2.1 36 0 = dl.length ∧ (dl.length : Int) ≤ 700) ∧ (dl ≠ [] → ob b.1 (fl b.2.1 1 43) 27 ∧ (dl.length : Int) ≤ ln b.1 (fl b.2.1 1 43)) ∧ At (fun i (e : Int × Int) => el b.2.1 (fl b.2.1 1 43) i = e.1 ∧ el b.2.2.1 77 i = e.2) 0 dl ∧ (∀ e ∈ dl, DFe b e) ∧ 0 ≤ bV b
/-- reading goes on -/
def XEs (b : Bse) (Xo : Int → Prop) (π : Sh) (σ τ : St) (L : List Stq) (Kn : List Int) : Prop := SHs π ∧ TKr σ τ ∧ (fl σ 182 1 = 0 ∧ fl τ 11 0 = 0) ∧ (fl σ 184 1 = fl τ 13 0 ∧ 0 ≤ fl τ 13 0 ∧ fl τ 13 0 ≤ 20) ∧ fl σ 144 44 = bD b ∧ BDy Xo π σ τ (bD b) (bP b) L Kn ∧ EFt (bX b) (bY b) b.1 b.2.1 π σ ∧ RDr (bV b) 0 b.2.2.1 τ ∧ bV b ≤ fl τ 16 0 ∧ ∀ x, Xo x → nn b.1 ≤ x
/-- reading met a fault: what is left of the class -/
def XQ (b : Bse) (Xo : Int → Prop) (π : Sh) (σ τ : St) (l k : Int) : Prop := SHs π ∧ (∃ τt, TKr σ τt) ∧ FLT σ τ ∧ fl σ 144 44 = bD b ∧ ∃ L Kn, BDy Xo π σ τ (bD b) (bP b) L Kn ∧ (L.length : Int) ≤ l ∧ (Kn.length : Int) ≤ k
/-- what the making of a node does -/
def EXq (N : Nat) (b : Bse) (τ : St) (lo hi : Int) (Kn : List Int) (j : Int) (seg : List Stq) (n o w z : Int) (k : Nat) : Prop := ∀ (x : Nat) (y : Int), x ≤ 12 → TKS N (UDl N x) (12 - x) (se τ 85 n y) (bV b) lo hi (bP b) Kn j seg (HLv (13 - x) + w) (HLv (13 - x) + z) k 0 0 [(1, n)] [] [o] [] []
theorem EXq.cg {N : Nat} {b : Bse} {τ τ' : St} {lo hi lo' hi' j n o w z w' z' : Int} {Kn Kn' : List Int} {seg : List Stq} {k k' : Nat} (h : EXq N b τ lo hi Kn j seg n o w z k) (ht : ∀ a i : Int, 85 ≤ a → a ≤ 94 → lo ≤ i → i < hi → ¬ (a = 85 ∧ i = n) → el τ' a i = el τ a i) (hK : Kn <+: Kn') (hl : lo' ≤ lo ∧ hi ≤ hi') (hu : w ≤ w' ∧ z ≤ z' ∧ k ≤ k') : EXq N b τ' lo' hi' Kn' j seg n o w' z' k' := fun x y hx => (h x y hx).mono hu.2.2 hl.1 hl.2 (fun a i x1 x2 x3 x4 => by
  rw [el_se, el_se]
  by_cases c : a = 85 ∧ i = n
  · rw [if_pos c, if_pos c]
  · rw [if_neg c, if_neg c, ht a i x1 x2 x3 x4 c]) hK (by omega) (by omega) (Int.le_refl _) (Int.le_refl _) (fun _ hx => hx) (fun _ hx => hx)
theorem EXq.use {N : Nat} {b : Bse} {τ : St} {lo hi j n o w z : Int} {Kn : List Int} {seg : List Stq} {k : Nat} (h : EXq N b τ lo hi Kn j seg n o w z k) {x : Nat} (hx : x ≤ 12) : TKS N (UDl N x) (12 - x) τ (bV b) lo hi (bP b) Kn j seg (HLv (13 - x) + w) (HLv (13 - x) + z) k 0 0 [(1, n)] [] [o] [] [] := (h x (el τ 85 n) hx).mono (Nat.le_refl _) (Int.le_refl _) (Int.le_refl _) (fun a i _ _ _ _ => by
  rw [el_se]
  by_cases c : a = 85 ∧ i = n
  · rw [if_pos c, c.1, c.2]
  · rw [if_neg c]) (List.prefix_refl _) (Int.le_refl _) (Int.le_refl _) (Int.le_refl _) (Int.le_refl _) (fun _ hx => hx) (fun _ hx => hx)
/-- uses of definitions -/
def Uoe (dl : List (Int × Int)) (b : Bse) (y : Stq) : Prop := (y.2.2.1, y.2.2.2.1) ∈ dl ∧ (y.2.2.2.2.2.2.2.length : Int) = el b.2.2.1 81 y.2.2.2.1 ∧ y.2.2.2.2.1 = 0
/-- the tokens do not change -/
theorem TKr.cg {σ σ' τ τ' : St} (h : TKr σ τ) (h1 : ∀ f : Nat, f = 181 ∨ (185 ≤ f ∧ f ≤ 190) → fl σ' f 1 = fl σ f 1) (h2 : ∀ j : Int, el σ' 2 j = el σ 2 j) (h3 : ∀ f : Nat, f = 1 ∨ (3 ≤ f ∧ f ≤ 10) → fl τ' f 0 = fl τ f 0) (h4 : ∀ j : Int, el τ' 97 j = el τ 97 j) : TKr σ' τ' := by
  obtain ⟨⟨a1, a2, a3, a4⟩, b1, b2, b3, b4, b5⟩ := h
  have hb : ∀ k, bA τ' k = bA τ k := fun k => by unfold bA; rw [h3 1 (by omega), h4]
  have hc : ∀ (k : Int) (e : Nat), cdr τ' k e = cdr τ k e := fun k e => by
    induction e with
    | zero => rfl
    | succ e ih => unfold cdr; simp only [hb, ih]
  unfold TKr RTp TKd
  simp only [h1 181 (by omega), h1 185 (by omega), h1 186 (by omega), h1 187 (by omega), h1 188 (by omega), h1 189 (by omega), h1 190 (by omega), h3 1 (by omega), h3 3 (by omega), h3 4 (by omega), h3 5 (by omega), h3 6 (by omega), h3 7 (by omega), h3 8 (by omega), h3 9 (by omega), h3 10 (by omega), h2, h4, hb, hc]
  exact ⟨⟨a1, a2, a3, a4⟩, b1, b2, b3, b4, b5⟩
