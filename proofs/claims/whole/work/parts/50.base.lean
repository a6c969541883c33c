/-! the two pure programs side by side: what is read back, what a call leaves alone, the outer relation -/
theorem grd_t {α : Type} {P : Prop} [Decidable P] {x : Option α} (h : P) : grd P x = x := if_pos h
theorem fl_sf (σ : St) (f : Nat) (i v : Int) (g : Nat) (j : Int) : fl (sf σ f i v) g j = if g = f ∧ j = i then v else fl σ g j := rfl
theorem fl_se (σ : St) (a i v : Int) (g : Nat) (j : Int) : fl (se σ a i v) g j = fl σ g j := rfl
theorem el_sf (σ : St) (f : Nat) (i v a j : Int) : el (sf σ f i v) a j = el σ a j := rfl
theorem el_se (σ : St) (a i v b j : Int) : el (se σ a i v) b j = if b = a ∧ j = i then v else el σ b j := rfl
theorem fl_sfs (σ : St) (f : Nat) (i v : Int) : fl (sf σ f i v) f i = v := if_pos ⟨rfl, rfl⟩
theorem fl_sfn (σ : St) {f g : Nat} (i v j : Int) (h : g ≠ f) : fl (sf σ f i v) g j = fl σ g j := if_neg (fun e => h e.1)
theorem el_ses (σ : St) (a i v : Int) : el (se σ a i v) a i = v := if_pos ⟨rfl, rfl⟩
theorem el_sen (σ : St) {a b : Int} (i v j : Int) (h : b ≠ a) : el (se σ a i v) b j = el σ b j := if_neg (fun e => h e.1)
theorem el_sej (σ : St) (a : Int) {i j : Int} (v : Int) (h : j ≠ i) : el (se σ a i v) a j = el σ a j := if_neg (fun e => h e.2)
/-- fields and arrays of the class that patterns and definitions are made of -/
def inF (f : Nat) : Prop := f < 40 ∨ (100 ≤ f ∧ f < 120) ∨ (200 ≤ f ∧ f < 220)
def SameC (σ σ' : St) : Prop := (∀ f i, inF f → fl σ' f i = fl σ f i) ∧ ∀ a j, 56 ≤ a ∨ a = 45 → el σ' a j = el σ a j
theorem SameC.rf (σ : St) : SameC σ σ := ⟨fun _ _ _ => rfl, fun _ _ _ => rfl⟩
theorem SameC.tr {σ σ1 σ2 : St} (h : SameC σ σ1) (k : SameC σ1 σ2) : SameC σ σ2 := ⟨fun f i hf => (k.1 f i hf).trans (h.1 f i hf), fun a j ha => (k.2 a j ha).trans (h.2 a j ha)⟩
theorem SameC.sf {σ σ1 : St} (h : SameC σ σ1) {f : Nat} (i v : Int) (hf : ¬ inF f) : SameC σ (sf σ1 f i v) := h.tr ⟨fun g j hg => fl_sfn _ _ _ _ (fun e => hf (e ▸ hg)), fun _ _ _ => rfl⟩
theorem SameC.se {σ σ1 : St} (h : SameC σ σ1) {a : Int} (i v : Int) (ha : a < 56 ∧ a ≠ 45) : SameC σ (se σ1 a i v) := h.tr ⟨fun _ _ _ => rfl, fun b j hb => el_sen _ _ _ _ (by omega)⟩
/-- the same of the reference -/
def inR (f : Nat) : Prop := f = 16 ∨ f = 28 ∨ f = 34 ∨ f = 48 ∨ f = 61
def inA (a : Int) : Prop := (57 ≤ a ∧ a ≤ 70) ∨ (78 ≤ a ∧ a ≤ 96)
def SameR (τ τ' : St) : Prop := (∀ f, inR f → fl τ' f 0 = fl τ f 0) ∧ ∀ a j, inA a → el τ' a j = el τ a j
theorem SameR.rf (τ : St) : SameR τ τ := ⟨fun _ _ => rfl, fun _ _ _ => rfl⟩
theorem SameR.tr {τ τ1 τ2 : St} (h : SameR τ τ1) (k : SameR τ1 τ2) : SameR τ τ2 := ⟨fun f hf => (k.1 f hf).trans (h.1 f hf), fun a j ha => (k.2 a j ha).trans (h.2 a j ha)⟩
theorem SameR.sf {τ τ1 : St} (h : SameR τ τ1) {f : Nat} (i v : Int) (hf : ¬ inR f) : SameR τ (sf τ1 f i v) := h.tr ⟨fun g hg => fl_sfn _ _ _ _ (fun e => hf (e ▸ hg)), fun _ _ _ => rfl⟩
theorem SameR.se {τ τ1 : St} (h : SameR τ τ1) {a : Int} (i v : Int) (ha : ¬ inA a) : SameR τ (se τ1 a i v) := h.tr ⟨fun _ _ => rfl, fun b j hb => el_sen _ _ _ _ (fun e => ha (e ▸ hb))⟩
/-- the tape -/
def RTp (σ τ : St) : Prop := fl σ 181 1 = fl τ 1 0 ∧ 0 ≤ fl τ 1 0 ∧ fl τ 1 0 ≤ 2000 ∧ ∀ j, 0 ≤ j → j < fl τ 1 0 → el σ 2 j = el τ 97 j ∧ -128 ≤ el τ 97 j ∧ el τ 97 j < 128
/-- the two rows of keys that sorting swaps -/
def KY (σ : St) : Prop := (fl σ 52 10 = 22 ∧ fl σ 53 10 = 23) ∨ (fl σ 52 10 = 23 ∧ fl σ 53 10 = 22)
/-- time, what was told, the seed -/
def RTm (n : Nat) (σ τ : St) : Prop := (fl σ 253 0 = 960 * fl τ 115 0 + fl τ 116 0 ∧ 0 ≤ fl τ 115 0 ∧ 0 ≤ fl τ 116 0 ∧ fl τ 116 0 < 960 ∧ fl σ 253 0 ≤ 96000000) ∧ (fl σ 254 0 = fl τ 117 0 ∧ 0 ≤ fl τ 117 0 ∧ fl τ 117 0 ≤ 20000 * (n : Int)) ∧ (fl σ 161 9 = fl τ 95 0 ∧ i32 (fl τ 95 0) ∧ KY σ) ∧ ((fl σ 255 0 = 0 ∧ fl τ 118 0 = -1 ∧ fl τ 119 0 = -1 ∧ fl τ 120 0 = -1) ∨ (fl σ 255 0 = 1 ∧ fl σ 256 0 = fl τ 118 0 ∧ fl σ 257 0 = fl τ 119 0 ∧ fl σ 258 0 = fl τ 120 0 ∧ True ∧ True ∧ True))
/-- muted, solo -/
def RMs (σ τ : St) : Prop := ∀ t, 0 ≤ t → t < 8 → (el σ 54 t = el τ 26 t ∧ (el τ 26 t = 0 ∨ el τ 26 t = 1)) ∧ el σ 55 t = el τ 25 t ∧ (el τ 25 t = 0 ∨ el τ 25 t = 1)
abbrev PRt : Type := Sh → St → St → Int → Int → Prop
abbrev DRt : Type := Nat → Sh → St → St → Prop
/-- the tracks -/
def RTk (PR : PRt) (π : Sh) (σ τ : St) : Prop := ∀ t, 0 ≤ t → t < 8 → PR π σ τ (el σ 51 t) (el τ 28 t) ∧ ((el σ 53 t = 0 ∧ el τ 27 t = -2) ∨ (el σ 53 t = 1 ∧ PR π σ τ (el σ 52 t) (el τ 27 t) ∧ 0 < fl τ 116 0))
/-- a word of the class (eight bytes, the first lowest) and of the reference (letters of five bits, four and four) -/
def wA (a b : Int) : Prop := 0 ≤ a ∧ a < 1048576 ∧ 0 ≤ b ∧ b < 1048576
def RKa (RW : Int → Int → Int → Prop) (σ τ : St) : Prop := fl σ 68 24 = fl τ 121 0 ∧ 0 ≤ fl τ 121 0 ∧ fl τ 121 0 ≤ 400 ∧ (0 < fl τ 121 0 → 1 ≤ fl τ 128 0) ∧ fl τ 128 0 ≤ 1000000 ∧ ∀ k, 0 ≤ k → k < fl τ 121 0 → (el σ 27 k = el τ 24 k ∧ 0 ≤ el τ 24 k ∧ el τ 24 k < fl τ 128 0) ∧ (el σ 28 k = el τ 23 k ∧ 1 ≤ el τ 23 k ∧ el τ 23 k ≤ 64000000) ∧ el σ 29 k = fl τ 128 0 ∧ RW (el σ 30 k) (el τ 22 k) (el τ 21 k) ∧ (0 ≤ el τ 19 k ∧ el τ 19 k ≤ 3 ∧ el σ 32 k = el τ 19 k / 2 ∧ el σ 31 k = (if 2 ≤ el τ 19 k then el τ 20 k else 0) ∧ i32 (el τ 20 k))
def RKh (RW : Int → Int → Int → Prop) (σ τ : St) : Prop := fl σ 68 33 = fl τ 129 0 ∧ 0 ≤ fl τ 129 0 ∧ fl τ 129 0 ≤ 400 ∧ ∀ k, 0 ≤ k → k < fl τ 129 0 → (1 ≤ el τ 16 k ∧ el τ 16 k ≤ 1000000 ∧ el σ 38 k = el τ 16 k) ∧ (el σ 36 k = el τ 15 k ∧ 0 ≤ el τ 15 k ∧ el τ 15 k < el τ 16 k) ∧ (el σ 37 k = el τ 14 k ∧ 1 ≤ el τ 14 k ∧ el τ 14 k ≤ 64000000) ∧ (el σ 34 k = el τ 18 k ∧ i32 (el τ 18 k) ∧ el σ 35 k = el τ 17 k ∧ i32 (el τ 17 k)) ∧ RW (el σ 39 k) (el τ 13 k) (el τ 12 k) ∧ (0 ≤ el τ 10 k ∧ el τ 10 k ≤ 3 ∧ el σ 41 k = el τ 10 k / 2 ∧ el σ 40 k = (if 2 ≤ el τ 10 k then el τ 11 k else 0) ∧ i32 (el τ 11 k))
/-- what patterns' and definitions' relations must be -/
def Inn (PR : PRt) (DR : DRt) : Prop := (∀ π σ τ σ' τ' r p, SameC σ σ' → SameR τ τ' → PR π σ τ r p → PR π σ' τ' r p) ∧ (∀ n π σ τ σ' τ', n < 512 → SameC σ σ' → SameR τ τ' → (0 ≤ fl τ' 1 0 ∧ fl τ' 1 0 ≤ fl τ 1 0 + 20) → DR n π σ τ → DR (n + 1) π σ' τ') ∧ (∀ n π σ τ, n < 512 → DR n π σ τ → DR (n + 1) π σ τ) ∧ (∀ π σ τ, PR π σ τ (-1) (-1)) ∧ (∀ π σ τ r p, PR π σ τ r p → (r = -1 ∧ p = -1) ∨ (ob π r 5 ∧ 0 ≤ p ∧ p < 103000 ∧ (fl σ 102 r = el τ 63 p ∧ 1 ≤ el τ 63 p ∧ el τ 63 p ≤ 1000000) ∧ (fl σ 103 r = el τ 62 p ∧ 0 ≤ el τ 62 p ∧ el τ 62 p ≤ 400) ∧ (fl σ 104 r = el τ 61 p ∧ 1 ≤ el τ 61 p ∧ el τ 61 p ≤ 64) ∧ (fl σ 105 r = el τ 60 p ∧ 0 ≤ el τ 60 p ∧ el τ 60 p ≤ 50000) ∧ fl σ 106 r = el τ 59 p ∧ 1 ≤ el τ 59 p ∧ el τ 59 p ≤ 60)) ∧ (∀ n π σ τ, DR n π σ τ → nn π ≤ 590000 ∧ sw π ≤ 4852000 ∧ fl σ 2 42 = fl τ 34 0 ∧ 0 ≤ fl τ 34 0 ∧ fl τ 34 0 ≤ 40)
/-- the whole relation -/
def RO (PR : PRt) (DR : DRt) (RW : Int → Int → Int → Prop) (n : Nat) (π : Sh) (σ τ : St) : Prop := Cl π σ ∧ RTp σ τ ∧ RTm n σ τ ∧ RMs σ τ ∧ RTk PR π σ τ ∧ RKa RW σ τ ∧ RKh RW σ τ ∧ DR n π σ τ
theorem RTm.up {n : Nat} {σ τ : St} (h : RTm n σ τ) : RTm (n + 1) σ τ := by
  obtain ⟨h1, ⟨h2, h3, h4⟩, h5⟩ := h
  exact ⟨h1, ⟨h2, h3, by omega⟩, h5⟩
theorem RO.up {PR : PRt} {DR : DRt} {RW : Int → Int → Int → Prop} (hI : Inn PR DR) {n : Nat} {π : Sh} {σ τ : St} (hn : n < 512) (h : RO PR DR RW n π σ τ) : RO PR DR RW (n + 1) π σ τ := by
  obtain ⟨h1, h2, h3, h4, h5, h6, h7, h8⟩ := h
  exact ⟨h1, h2, h3.up, h4, h5, h6, h7, hI.2.2.1 n π σ τ hn h8⟩
theorem RTk.same {PR : PRt} {DR : DRt} (hI : Inn PR DR) {π : Sh} {σ τ σ' τ' : St} (hC : SameC σ σ') (hR : SameR τ τ') (h : RTk PR π σ τ) (h1 : ∀ t, 0 ≤ t → t < 8 → el σ' 51 t = el σ 51 t ∧ el σ' 52 t = el σ 52 t ∧ el σ' 53 t = el σ 53 t ∧ el τ' 27 t = el τ 27 t ∧ el τ' 28 t = el τ 28 t) (h2 : fl τ' 116 0 = fl τ 116 0) : RTk PR π σ' τ' := fun t a b => by
  obtain ⟨k1, k2⟩ := h t a b
  obtain ⟨e1, e2, e3, e4, e5⟩ := h1 t a b
  rw [e1, e2, e3, e4, e5, h2]
  refine ⟨hI.1 _ _ _ _ _ _ _ hC hR k1, ?_⟩
  rcases k2 with k2 | ⟨k2, k3, k4⟩
  · exact Or.inl k2
  · exact Or.inr ⟨k2, hI.1 _ _ _ _ _ _ _ hC hR k3, k4⟩
/-- states that differ in nothing but the tape and its size -/
theorem nF {f : Nat} (h : (40 ≤ f ∧ f < 100) ∨ (120 ≤ f ∧ f < 200) ∨ 220 ≤ f) : ¬ inF f := by
  unfold inF
  omega
