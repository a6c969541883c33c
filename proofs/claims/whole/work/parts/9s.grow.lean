/-! what was made stays, as more is made -/
/-- the class's cells grow -/
def HXl (π : Sh) (σ σ' : St) : Prop := (∀ x : Int, x ≠ 42 → x ≠ 43 → x < nn π → tg π x = 0 → (fl σ' 1 x = fl σ 1 x ∧ fl σ' 2 x = fl σ 2 x) ∧ (56 ≤ fl σ 1 x → fl σ 1 x < nn π → fl σ 1 x ≠ fl σ 1 42 → fl σ 1 x ≠ fl σ 1 43 → ∀ j : Int, el σ' (fl σ 1 x) j = el σ (fl σ 1 x) j)) ∧ (43 < nn π → (fl σ' 1 42 = fl σ 1 42 ∨ nn π ≤ fl σ' 1 42) ∧ (fl σ' 1 43 = fl σ 1 43 ∨ nn π ≤ fl σ' 1 43))
def HX (π : Sh) (σ : St) (π' : Sh) (σ' : St) : Prop := ext π π' ∧ (∀ (f : Nat) (i : Int), inF f → 3 ≤ f → i < nn π → fl σ' f i = fl σ f i) ∧ (∀ a j : Int, 56 ≤ a ∨ a = 45 → a < nn π → tg π a ≠ 27 → el σ' a j = el σ a j) ∧ HXl π σ σ'
def HP (π : Sh) (σ : St) (π' : Sh) (σ' : St) : Prop := ext π π' ∧ (∀ (f : Nat) (i : Int), inF f → 100 ≤ f → i < nn π → fl σ' f i = fl σ f i) ∧ ∀ a j : Int, 56 ≤ a ∨ a = 45 → a < nn π → tg π a ≠ 27 → el σ' a j = el σ a j
theorem HX.hp {π π' : Sh} {σ σ' : St} (h : HX π σ π' σ') : HP π σ π' σ' := ⟨h.1, fun f i a b c => h.2.1 f i a (by omega) c, h.2.2.1⟩
theorem HP.rf (π : Sh) (σ : St) : HP π σ π σ := ⟨ext.rf _, fun _ _ _ _ _ => rfl, fun _ _ _ _ _ => rfl⟩
theorem HP.tr {π π1 π2 : Sh} {σ σ1 σ2 : St} (h : HP π σ π1 σ1) (k : HP π1 σ1 π2 σ2) : HP π σ π2 σ2 := by
  have e := h.1.1
  exact ⟨h.1.tr k.1, fun f i a c b => (k.2.1 f i a c (by omega)).trans (h.2.1 f i a c b), fun a j x y z => (k.2.2 a j x (by omega) (by rw [(h.1.2.2 a y).1]; exact z)).trans (h.2.2 a j x y z)⟩
theorem HX.all {π π' : Sh} {σ σ' : St} (h : ext π π') (h1 : ∀ (f : Nat) (i : Int), inF f → i < nn π → fl σ' f i = fl σ f i) (h2 : ∀ a j : Int, 56 ≤ a ∨ a = 45 → a < nn π → el σ' a j = el σ a j) : HX π σ π' σ' := ⟨h, fun f i a _ b => h1 f i a b, fun a j x y _ => h2 a j x y, fun x _ _ hx _ => ⟨⟨h1 1 x (by unfold inF; omega) hx, h1 2 x (by unfold inF; omega) hx⟩, fun a b _ _ j => h2 _ j (Or.inl a) b⟩, fun hn => ⟨Or.inl (h1 1 42 (by unfold inF; omega) (by omega)), Or.inl (h1 1 43 (by unfold inF; omega) (by omega))⟩⟩
theorem HX.rf (π : Sh) (σ : St) : HX π σ π σ := HX.all (ext.rf _) (fun _ _ _ _ => rfl) (fun _ _ _ _ => rfl)
theorem HX.tr {π π1 π2 : Sh} {σ σ1 σ2 : St} (h : HX π σ π1 σ1) (k : HX π1 σ1 π2 σ2) : HX π σ π2 σ2 := by
  have e := h.1.1
  refine ⟨h.1.tr k.1, fun f i a c b => (k.2.1 f i a c (by omega)).trans (h.2.1 f i a c b), fun a j x y z => (k.2.2.1 a j x (by omega) (by rw [(h.1.2.2 a y).1]; exact z)).trans (h.2.2.1 a j x y z), fun x x1 x2 x3 x4 => ?_, fun h43 => ⟨?_, ?_⟩⟩
  · obtain ⟨⟨a1, a2⟩, a3⟩ := h.2.2.2.1 x x1 x2 x3 x4
    obtain ⟨⟨b1, b2⟩, b3⟩ := k.2.2.2.1 x x1 x2 (by omega) (by rw [(h.1.2.2 x x3).1]; exact x4)
    refine ⟨⟨b1.trans a1, b2.trans a2⟩, fun c1 c2 c3 c4 j => ?_⟩
    rw [a1] at b3
    rw [b3 c1 (by omega) (by rcases (h.2.2.2.2 (by omega)).1 with q | q <;> omega) (by rcases (h.2.2.2.2 (by omega)).2 with q | q <;> omega) j, a3 c1 c2 c3 c4 j]
  · rcases (k.2.2.2.2 (by omega)).1 with q | q
    · rw [q]; exact (h.2.2.2.2 h43).1
    · exact Or.inr (by omega)
  · rcases (k.2.2.2.2 (by omega)).2 with q | q
    · rw [q]; exact (h.2.2.2.2 h43).2
    · exact Or.inr (by omega)
theorem HX.of {π : Sh} {σ σ' : St} (h : SameC σ σ') : HX π σ π σ' := HX.all (ext.rf _) (fun f i a _ => h.1 f i a) (fun a j x _ => h.2 a j x)
/-- the reference's tables grow -/
def TX (τ τ' : St) : Prop := fl τ 48 0 ≤ fl τ' 48 0 ∧ fl τ 61 0 ≤ fl τ' 61 0 ∧ (∀ a j : Int, 59 ≤ a → a ≤ 70 → j < fl τ 48 0 → el τ' a j = el τ a j) ∧ ∀ a j : Int, a = 57 ∨ a = 58 → j < fl τ 61 0 → el τ' a j = el τ a j
theorem TX.rf (τ : St) : TX τ τ := ⟨Int.le_refl _, Int.le_refl _, fun _ _ _ _ _ => rfl, fun _ _ _ _ => rfl⟩
theorem TX.tr {τ τ1 τ2 : St} (h : TX τ τ1) (k : TX τ1 τ2) : TX τ τ2 := ⟨Int.le_trans h.1 k.1, Int.le_trans h.2.1 k.2.1, fun a j x y z => (k.2.2.1 a j x y (by have := h.1; omega)).trans (h.2.2.1 a j x y z), fun a j x y => (k.2.2.2 a j x (by have := h.2.1; omega)).trans (h.2.2.2 a j x y)⟩
theorem TX.of {τ τ' : St} (h : SameR τ τ') : TX τ τ' := ⟨by rw [h.1 48 (by unfold inR; omega)]; exact Int.le_refl _, by rw [h.1 61 (by unfold inR; omega)]; exact Int.le_refl _, fun a j x y _ => h.t a j (by omega) y, fun a j x _ => h.t a j (by omega) (by omega)⟩
theorem kidF_grow {τ τ' : St} : ∀ (n : Nat) (a : Int), (∀ x j : Int, x = 57 ∨ x = 58 → j < a + n → el τ' x j = el τ x j) → kidF τ' a n = kidF τ a n
  | 0, _, _ => rfl
  | n + 1, a, h => by rw [kidF, kidF, h 58 a (by omega) (by omega), h 57 a (by omega) (by omega), kidF_grow n (a + 1) (fun x j hx hj => h x j hx (by omega))]
theorem NK.grow {τ τ' : St} {p : Int} (hp : ∀ a, 59 ≤ a → a ≤ 70 → el τ' a p = el τ a p) (hkl : kl τ' p = kl τ p) (hk : ∀ k ∈ kl τ p, ∀ a, 59 ≤ a → a ≤ 63 → el τ' a k.1 = el τ a k.1) (hkd : ∀ i, 0 ≤ i → i < el τ 64 p → kd τ' p i = kd τ p i ∧ ∀ a, 59 ≤ a → a ≤ 63 → el τ' a (kd τ p i) = el τ a (kd τ p i)) (h : NK τ p) : NK τ' p := by
  have e70 := hp 70 (by decide) (by decide)
  have e69 := hp 69 (by decide) (by decide)
  have e68 := hp 68 (by decide) (by decide)
  have e67 := hp 67 (by decide) (by decide)
  have e66 := hp 66 (by decide) (by decide)
  have e64 := hp 64 (by decide) (by decide)
  have eg : gr τ' p = gr τ p := hp 63 (by decide) (by decide)
  have ec : cw τ' p = cw τ p := hp 62 (by decide) (by decide)
  have er : rc τ' p = rc τ p := hp 61 (by decide) (by decide)
  have ew : wk τ' p = wk τ p := hp 60 (by decide) (by decide)
  have kv : ∀ k ∈ kl τ p, gr τ' k.1 = gr τ k.1 ∧ cw τ' k.1 = cw τ k.1 ∧ rc τ' k.1 = rc τ k.1 ∧ wk τ' k.1 = wk τ k.1 := fun k hk' => ⟨hk k hk' 63 (by decide) (by decide), hk k hk' 62 (by decide) (by decide), hk k hk' 61 (by decide) (by decide), hk k hk' 60 (by decide) (by decide)⟩
  have ecr : crS τ' (kl τ p) = crS τ (kl τ p) := by
    have : ∀ l : List Kid, (∀ k ∈ l, cw τ' k.1 = cw τ k.1) → crS τ' l = crS τ l := by
      intro l
      induction l with
      | nil => intro _; rfl
      | cons k l ih => intro hl; rw [crS, crS, ih (fun x hx => hl x (by simp [hx])), hl k (by simp)]
    exact this _ (fun k hk' => (kv k hk').2.1)
  have dv : ∀ i, 0 ≤ i → i < el τ 64 p → kd τ' p i = kd τ p i ∧ gr τ' (kd τ p i) = gr τ (kd τ p i) ∧ cw τ' (kd τ p i) = cw τ (kd τ p i) ∧ rc τ' (kd τ p i) = rc τ (kd τ p i) ∧ wk τ' (kd τ p i) = wk τ (kd τ p i) := fun i i0 i1 => ⟨(hkd i i0 i1).1, (hkd i i0 i1).2 63 (by decide) (by decide), (hkd i i0 i1).2 62 (by decide) (by decide), (hkd i i0 i1).2 61 (by decide) (by decide), (hkd i i0 i1).2 60 (by decide) (by decide)⟩
  unfold NK at h ⊢
  rw [e70]
  rcases h with ⟨K, h⟩ | ⟨K, h⟩ | K | ⟨K, h1, G, h2, h3, h4⟩ | ⟨K, h3, h4⟩ | ⟨K, h1, h3, h4⟩ | ⟨K, h1, h2, h3, G, h4, h5⟩ | ⟨K, h⟩ | ⟨K, h⟩ | ⟨K, h⟩ | ⟨K, h⟩ | ⟨K, h⟩ | ⟨K, h⟩ | ⟨K, h, x⟩ | ⟨K, h, x⟩ | ⟨K, h, x⟩ | ⟨K, h⟩ | ⟨K, h⟩ | ⟨K, h⟩ | ⟨K, h⟩ | ⟨K, h, x⟩ | ⟨K, h, x⟩ | ⟨K, h⟩ | ⟨K, h⟩ | ⟨K, h, x⟩
  · refine Or.inl ⟨K, ?_⟩
    unfold NK1 at h ⊢; rw [eg, ec, e69, e68]; exact h
  · refine Or.inr (Or.inl ⟨K, ?_⟩)
    unfold NK2 at h ⊢; rw [eg, ec, e69]; exact h
  · exact Or.inr (Or.inr (Or.inl K))
  · refine Or.inr (Or.inr (Or.inr (Or.inl ⟨K, by rw [e64]; exact h1, G, by rw [eg, hkl]; exact h2, by rw [hkl, ecr, ec]; exact h3, fun k hk' => ?_⟩)))
    rw [hkl] at hk'
    obtain ⟨v1, v2, v3, v4⟩ := kv k hk'
    rw [v1, v3, v4, er, ew]; exact h4 k hk'
  · refine Or.inr (Or.inr (Or.inr (Or.inr (Or.inl ⟨K, by rw [hkl, ecr, ec]; exact h3, fun k hk' => ?_⟩))))
    rw [hkl] at hk'
    obtain ⟨v1, v2, v3, v4⟩ := kv k hk'
    rw [v1, v3, v4, eg, er, ew]; exact h4 k hk'
  · refine Or.inr (Or.inr (Or.inr (Or.inr (Or.inr (Or.inl ⟨K, by rw [e64]; exact h1, by rw [hkl]; exact h3, fun k hk' => ?_⟩)))))
    rw [hkl] at hk'
    obtain ⟨v1, v2, v3, v4⟩ := kv k hk'
    have := h4 k hk'
    unfold sub at this ⊢
    rw [v1, v2, v3, v4, eg, ec, er, ew]; exact this
  · refine Or.inr (Or.inr (Or.inr (Or.inr (Or.inr (Or.inr (Or.inl ⟨K, by rw [e64]; exact h1, by rw [hkl]; exact h2, by rw [e69]; exact h3, G, by rw [eg, e69]; exact h4, fun k hk' => ?_⟩))))))
    rw [hkl] at hk'
    obtain ⟨v1, v2, v3, v4⟩ := kv k hk'
    rw [v1, v2, v3, v4, e69, ec, er, ew]; exact h5 k hk'
  · refine Or.inr (Or.inr (Or.inr (Or.inr (Or.inr (Or.inr (Or.inr (Or.inl ⟨K, ?_⟩)))))))
    unfold NK8 at h ⊢
    obtain ⟨d1, d2, d3, d4, d5⟩ := dv 0 (by omega) (by omega)
    rw [d1, d2, d3, d4, d5, e64, e69, e68, e67, eg, ec, er, ew]; exact h
  · refine Or.inr (Or.inr (Or.inr (Or.inr (Or.inr (Or.inr (Or.inr (Or.inr (Or.inl ⟨K, ?_⟩))))))))
    unfold NK9 at h ⊢
    obtain ⟨d1, d2, d3, d4, d5⟩ := dv 0 (by omega) (by omega)
    rw [d1, d2, d3, d4, d5, e64, e69, e68, eg, ec, er, ew]; exact h
  · refine Or.inr (Or.inr (Or.inr (Or.inr (Or.inr (Or.inr (Or.inr (Or.inr (Or.inr (Or.inl ⟨K, ?_⟩)))))))))
    unfold NK10 at h ⊢
    obtain ⟨d1, d2, d3, d4, d5⟩ := dv 0 (by omega) (by omega)
    rw [d1, d2, d3, d4, d5, e64, e69, e68, eg, ec, er, ew]; exact h
  · refine Or.inr (Or.inr (Or.inr (Or.inr (Or.inr (Or.inr (Or.inr (Or.inr (Or.inr (Or.inr (Or.inl ⟨K, ?_⟩))))))))))
    unfold NK10 at h ⊢
    obtain ⟨d1, d2, d3, d4, d5⟩ := dv 0 (by omega) (by omega)
    rw [d1, d2, d3, d4, d5, e64, e69, e68, eg, ec, er, ew]; exact h
  · refine Or.inr (Or.inr (Or.inr (Or.inr (Or.inr (Or.inr (Or.inr (Or.inr (Or.inr (Or.inr (Or.inr (Or.inl ⟨K, ?_⟩)))))))))))
    unfold NK12 at h ⊢
    obtain ⟨d1, d2, d3, d4, d5⟩ := dv 0 (by omega) (by omega)
    rw [d1, d2, d3, d5, e64, eg, ec, ew]; exact h
  · refine Or.inr (Or.inr (Or.inr (Or.inr (Or.inr (Or.inr (Or.inr (Or.inr (Or.inr (Or.inr (Or.inr (Or.inr (Or.inl ⟨K, ?_⟩))))))))))))
    unfold NK13 sub at h ⊢
    obtain ⟨d1, d2, d3, d4, d5⟩ := dv 0 (by omega) (by omega)
    obtain ⟨f1, f2, f3, f4, f5⟩ := dv 1 (by omega) (by omega)
    rw [d1, d2, d3, d4, d5, f1, f2, f3, f4, f5, e64, e69, eg, ec, er, ew]; exact h
  · refine Or.inr (Or.inr (Or.inr (Or.inr (Or.inr (Or.inr (Or.inr (Or.inr (Or.inr (Or.inr (Or.inr (Or.inr (Or.inr (Or.inl ⟨K, ?_, by rw [e68]; exact x⟩)))))))))))))
    unfold NK13 sub at h ⊢
    obtain ⟨d1, d2, d3, d4, d5⟩ := dv 0 (by omega) (by omega)
    obtain ⟨f1, f2, f3, f4, f5⟩ := dv 1 (by omega) (by omega)
    rw [d1, d2, d3, d4, d5, f1, f2, f3, f4, f5, e64, e69, eg, ec, er, ew]; exact h
  · refine Or.inr (Or.inr (Or.inr (Or.inr (Or.inr (Or.inr (Or.inr (Or.inr (Or.inr (Or.inr (Or.inr (Or.inr (Or.inr (Or.inr (Or.inl ⟨K, ?_, by rw [e69]; exact x⟩))))))))))))))
    unfold NK15 at h ⊢
    obtain ⟨d1, d2, d3, d4, d5⟩ := dv 0 (by omega) (by omega)
    obtain ⟨f1, f2, f3, f4, f5⟩ := dv 1 (by omega) (by omega)
    rw [d1, d2, d3, d4, d5, f1, f2, f3, f4, f5, e64, eg, ec, er, ew]; exact h
  · refine Or.inr (Or.inr (Or.inr (Or.inr (Or.inr (Or.inr (Or.inr (Or.inr (Or.inr (Or.inr (Or.inr (Or.inr (Or.inr (Or.inr (Or.inr (Or.inl ⟨K, ?_, by rw [e69, e68, e67, e66]; exact x⟩)))))))))))))))
    unfold NK15 at h ⊢
    obtain ⟨d1, d2, d3, d4, d5⟩ := dv 0 (by omega) (by omega)
    obtain ⟨f1, f2, f3, f4, f5⟩ := dv 1 (by omega) (by omega)
    rw [d1, d2, d3, d4, d5, f1, f2, f3, f4, f5, e64, eg, ec, er, ew]; exact h
  · refine Or.inr (Or.inr (Or.inr (Or.inr (Or.inr (Or.inr (Or.inr (Or.inr (Or.inr (Or.inr (Or.inr (Or.inr (Or.inr (Or.inr (Or.inr (Or.inr (Or.inl ⟨K, ?_⟩))))))))))))))))
    unfold NK17 at h ⊢
    obtain ⟨d1, d2, d3, d4, d5⟩ := dv 0 (by omega) (by omega)
    rw [d1, d2, d3, d4, d5, e64, e69, e68, eg, ec, er, ew]; exact h
  · refine Or.inr (Or.inr (Or.inr (Or.inr (Or.inr (Or.inr (Or.inr (Or.inr (Or.inr (Or.inr (Or.inr (Or.inr (Or.inr (Or.inr (Or.inr (Or.inr (Or.inr (Or.inl ⟨K, ?_⟩)))))))))))))))))
    unfold NK18 at h ⊢
    obtain ⟨d1, d2, d3, d4, d5⟩ := dv 0 (by omega) (by omega)
    rw [d1, d2, d3, d4, d5, e64, e69, e68, eg, ec, er, ew]; exact h
  · refine Or.inr (Or.inr (Or.inr (Or.inr (Or.inr (Or.inr (Or.inr (Or.inr (Or.inr (Or.inr (Or.inr (Or.inr (Or.inr (Or.inr (Or.inr (Or.inr (Or.inr (Or.inr (Or.inl ⟨K, ?_⟩))))))))))))))))))
    unfold NK19 sub at h ⊢
    obtain ⟨d1, d2, d3, d4, d5⟩ := dv 0 (by omega) (by omega)
    rw [d1, d2, d3, d4, d5, e64, e69, eg, ec, er, ew]; exact h
  · refine Or.inr (Or.inr (Or.inr (Or.inr (Or.inr (Or.inr (Or.inr (Or.inr (Or.inr (Or.inr (Or.inr (Or.inr (Or.inr (Or.inr (Or.inr (Or.inr (Or.inr (Or.inr (Or.inr (Or.inl ⟨K, ?_⟩)))))))))))))))))))
    unfold NK20 sub spU spD at h ⊢
    obtain ⟨d1, d2, d3, d4, d5⟩ := dv 0 (by omega) (by omega)
    rw [d1, d2, d3, d4, d5, e64, e69, e68, e67, e66, eg, ec, er, ew]; exact h
  · refine Or.inr (Or.inr (Or.inr (Or.inr (Or.inr (Or.inr (Or.inr (Or.inr (Or.inr (Or.inr (Or.inr (Or.inr (Or.inr (Or.inr (Or.inr (Or.inr (Or.inr (Or.inr (Or.inr (Or.inr (Or.inl ⟨K, ?_, by rw [e68]; exact x⟩))))))))))))))))))))
    unfold NK19 sub at h ⊢
    obtain ⟨d1, d2, d3, d4, d5⟩ := dv 0 (by omega) (by omega)
    rw [d1, d2, d3, d4, d5, e64, e69, eg, ec, er, ew]; exact h
  · refine Or.inr (Or.inr (Or.inr (Or.inr (Or.inr (Or.inr (Or.inr (Or.inr (Or.inr (Or.inr (Or.inr (Or.inr (Or.inr (Or.inr (Or.inr (Or.inr (Or.inr (Or.inr (Or.inr (Or.inr (Or.inr (Or.inl ⟨K, ?_, by rw [e68]; exact x⟩)))))))))))))))))))))
    unfold NK19 sub at h ⊢
    obtain ⟨d1, d2, d3, d4, d5⟩ := dv 0 (by omega) (by omega)
    rw [d1, d2, d3, d4, d5, e64, e69, eg, ec, er, ew]; exact h
  · refine Or.inr (Or.inr (Or.inr (Or.inr (Or.inr (Or.inr (Or.inr (Or.inr (Or.inr (Or.inr (Or.inr (Or.inr (Or.inr (Or.inr (Or.inr (Or.inr (Or.inr (Or.inr (Or.inr (Or.inr (Or.inr (Or.inr (Or.inl ⟨K, ?_⟩))))))))))))))))))))))
    unfold NK23 sub at h ⊢
    obtain ⟨d1, d2, d3, d4, d5⟩ := dv 0 (by omega) (by omega)
    obtain ⟨f1, f2, f3, f4, f5⟩ := dv 1 (by omega) (by omega)
    rw [d1, d2, d3, d4, d5, f1, f4, f5, e64, eg, ec, er, ew]; exact h
  · refine Or.inr (Or.inr (Or.inr (Or.inr (Or.inr (Or.inr (Or.inr (Or.inr (Or.inr (Or.inr (Or.inr (Or.inr (Or.inr (Or.inr (Or.inr (Or.inr (Or.inr (Or.inr (Or.inr (Or.inr (Or.inr (Or.inr (Or.inr (Or.inl ⟨K, ?_⟩)))))))))))))))))))))))
    unfold NK23 sub at h ⊢
    obtain ⟨d1, d2, d3, d4, d5⟩ := dv 0 (by omega) (by omega)
    obtain ⟨f1, f2, f3, f4, f5⟩ := dv 1 (by omega) (by omega)
    rw [d1, d4, d5, f1, f2, f3, f4, f5, e64, eg, ec, er, ew]; exact h
  · refine Or.inr (Or.inr (Or.inr (Or.inr (Or.inr (Or.inr (Or.inr (Or.inr (Or.inr (Or.inr (Or.inr (Or.inr (Or.inr (Or.inr (Or.inr (Or.inr (Or.inr (Or.inr (Or.inr (Or.inr (Or.inr (Or.inr (Or.inr (Or.inr ⟨K, ?_, by rw [e69]; exact x⟩)))))))))))))))))))))))
    unfold NK23 sub at h ⊢
    obtain ⟨d1, d2, d3, d4, d5⟩ := dv 0 (by omega) (by omega)
    obtain ⟨f1, f2, f3, f4, f5⟩ := dv 1 (by omega) (by omega)
    rw [d1, d2, d3, d4, d5, f1, f4, f5, e64, eg, ec, er, ew]; exact h
theorem TN.lt {τ : St} : ∀ {d : Nat} {p : Int}, TN τ d p → p < fl τ 48 0
  | 0, _, h => h.elim
  | _ + 1, _, h => h.1.2.1
theorem tn_grow {τ τ' : St} (h : TX τ τ') : ∀ {d : Nat} {p : Int}, TN τ d p → TN τ' d p
  | 0, _, k => k.elim
  | d + 1, p, k => by
    obtain ⟨⟨a1, a2, a3⟩, a4, ⟨a5, a6, a7, a8⟩, a9, a10⟩ := id k
    obtain ⟨h48, h61, hT, hK⟩ := id h
    have e65 := hT 65 p (by decide) (by decide) a2
    have e64 := hT 64 p (by decide) (by decide) a2
    have ekl : kl τ' p = kl τ p := by
      unfold kl
      rw [e65, e64]
      exact kidF_grow _ _ (fun x j hx hj => hK x j hx (by omega))
    have ekd : ∀ i, 0 ≤ i → i < el τ 64 p → kd τ' p i = kd τ p i := fun i i0 i1 => by
      show el τ' 58 (el τ' 65 p + i) = el τ 58 (el τ 65 p + i)
      rw [e65, hK 58 _ (Or.inr rfl) (by omega)]
    refine ⟨⟨a1, by omega, a3⟩, ?_, ?_, fun i i0 i1 => ?_, NK.grow (fun a x y => hT a p x y a2) ekl (fun k' hk' a x y => hT a k'.1 x (by omega) (k.kid hk').lt) (fun i i0 i1 => ⟨ekd i i0 i1, fun a x y => hT a _ x (by omega) (a9 i i0 i1).lt⟩) a10⟩
    · unfold rng gr cw rc wk at a4 ⊢
      rw [hT 63 p (by decide) (by decide) a2, hT 62 p (by decide) (by decide) a2, hT 61 p (by decide) (by decide) a2, hT 60 p (by decide) (by decide) a2]
      exact a4
    · rw [e65, e64]
      exact ⟨a5, a6, by omega, a8⟩
    · rw [e64] at i1
      rw [ekd i i0 i1]
      exact tn_grow h (a9 i i0 i1)
theorem WA.growP {π π' : Sh} {σ σ' τ τ' : St} {s p : Int} (hX : HP π σ π' σ') (hs : s < nn π) (e64 : el τ' 64 p = el τ 64 p) (ekl : kl τ' p = kl τ p) (e57 : ∀ i, 0 ≤ i → i < el τ 64 p → el τ' 57 (el τ' 65 p + i) = el τ 57 (el τ 65 p + i)) (h : WA π σ τ s p) : WA π' σ' τ' s p := by
  obtain ⟨⟨b1, b2, b3⟩, ⟨c1, c2, c3⟩, ⟨d1, d2, d3⟩, b4⟩ := h
  have f : ∀ (f : Nat) (i : Int), (200 ≤ f ∧ f < 220) → i < nn π → fl σ' f i = fl σ f i := fun f i hf hi => hX.2.1 f i (by unfold inF; omega) (by omega) hi
  unfold WA
  rw [f 211 s (by omega) hs, f 212 s (by omega) hs, f 213 s (by omega) hs, e64, ekl, (hX.1.2.2 _ b1.2.1).2, (hX.1.2.2 _ c1.2.1).2, (hX.1.2.2 _ d1.2.1).2]
  refine ⟨⟨b1.ext hX.1, b2, b3⟩, ⟨c1.ext hX.1, c2, c3⟩, ⟨d1.ext hX.1, d2, d3⟩, fun i i0 i1 => ?_⟩
  rw [hX.2.2 _ _ (Or.inl b3) b1.2.1 (by rw [b1.2.2]; decide), hX.2.2 _ _ (Or.inl c3) c1.2.1 (by rw [c1.2.2]; decide), hX.2.2 _ _ (Or.inl d3) d1.2.1 (by rw [d1.2.2]; decide), e57 i i0 i1]
  exact b4 i i0 i1
theorem CN.growP {π π' : Sh} {σ σ' τ τ' : St} (hX : HP π σ π' σ') (hT : TX τ τ') : ∀ {d : Nat} {r p : Int}, TN τ d p → CN π σ τ d r p → CN π' σ' τ' d r p
  | 0, _, _, _, k => k.elim
  | d + 1, r, p, t, k => by
    obtain ⟨⟨a1, a2, a3⟩, a4, ⟨a5, a6, a7, a8⟩, a9, a10⟩ := id t
    obtain ⟨h48, h61, hT1, hT2⟩ := id hT
    obtain ⟨k1, k2, k3, ⟨k4, k5, k6⟩, k7, k8⟩ := k
    have f : ∀ (f : Nat) (i : Int), ((100 ≤ f ∧ f < 120) ∨ (200 ≤ f ∧ f < 220)) → i < nn π → fl σ' f i = fl σ f i := fun f i hf hi => hX.2.1 f i (by unfold inF; omega) (by omega) hi
    have rl := k1.2.1
    have sl := k3.2.1
    have al := k4.2.1
    have e65 := hT1 65 p (by decide) (by decide) a2
    have e64 := hT1 64 p (by decide) (by decide) a2
    have ekl : kl τ' p = kl τ p := by
      unfold kl
      rw [e65, e64]
      exact kidF_grow _ _ (fun x j hx hj => hT2 x j hx (by omega))
    refine ⟨k1.ext hX.1, ?_, ?_, ?_, fun i i0 i1 => ?_, ?_⟩
    · unfold gr cw rc wk at k2 ⊢
      rw [f 102 r (by omega) rl, f 103 r (by omega) rl, f 104 r (by omega) rl, f 105 r (by omega) rl, f 106 r (by omega) rl, hT1 63 p (by decide) (by decide) a2, hT1 62 p (by decide) (by decide) a2, hT1 61 p (by decide) (by decide) a2, hT1 60 p (by decide) (by decide) a2, hT1 59 p (by decide) (by decide) a2]
      exact k2
    · rw [f 100 r (by omega) rl]; exact k3.ext hX.1
    · rw [f 101 r (by omega) rl, (hX.1.2.2 _ al).2, e64]
      exact ⟨k4.ext hX.1, k5, k6⟩
    · rw [e64] at i1
      rw [f 101 r (by omega) rl, hX.2.2 _ _ (by omega) al (by rw [k4.2.2]; decide)]
      show CN π' σ' τ' d _ (el τ' 58 (el τ' 65 p + i))
      rw [e65, hT2 58 _ (Or.inr rfl) (by omega)]
      exact CN.growP hX hT (a9 i i0 i1) (k7 i i0 i1)
    · rw [f 100 r (by omega) rl]
      unfold CK at k8 ⊢
      rw [f 200 _ (by omega) sl, f 207 _ (by omega) sl, f 202 _ (by omega) sl, f 203 _ (by omega) sl, f 204 _ (by omega) sl, f 205 _ (by omega) sl, hT1 70 p (by decide) (by decide) a2, hT1 69 p (by decide) (by decide) a2, hT1 68 p (by decide) (by decide) a2, hT1 67 p (by decide) (by decide) a2, hT1 66 p (by decide) (by decide) a2, ekl]
      obtain ⟨x1, x2, x3, x4, x5, x6, x7⟩ := k8
      exact ⟨x1, x2, x3, x4, x5, x6, fun hk => (x7 hk).growP hX sl e64 ekl (fun i i0 i1 => by rw [e65, hT2 57 _ (Or.inl rfl) (by omega)])⟩
theorem PRn.growP {π π' : Sh} {σ σ' τ τ' : St} {r p : Int} (hX : HP π σ π' σ') (hT : TX τ τ') (h : PRn π σ τ r p) : PRn π' σ' τ' r p := by
  rcases h with h | ⟨h1, h2, h3, h4⟩
  · exact Or.inl h
  · right
    rw [hT.2.2.1 59 p (by decide) (by decide) h1.lt]
    exact ⟨tn_grow hT h1, CN.growP hX hT h1 h2, h3, h4⟩
theorem PRn.grow {π π' : Sh} {σ σ' τ τ' : St} {r p : Int} (hX : HX π σ π' σ') (hT : TX τ τ') (h : PRn π σ τ r p) : PRn π' σ' τ' r p := h.growP hX.hp hT
