/-! a step is made by both -/
theorem kcO_b (K : Int) : 1 ≤ kcO K ∧ kcO K ≤ 24 := by
  unfold kcO
  repeat' split
  all_goals omega
/-- operands and the values that the reference takes -/
def OV2 (π : Sh) (σ τ : St) (base rb : Int) (Kn : List Int) : List Kid → List Kid → Prop
  | [], [] => True
  | o :: os, k :: ks => (o.2 = k.2 ∧ OVa π σ τ base rb Kn o.1 k.1) ∧ OV2 π σ τ base rb Kn os ks
  | _, _ => False
theorem OV2.len {π : Sh} {σ τ : St} {base rb : Int} {Kn : List Int} : ∀ {os ks : List Kid}, OV2 π σ τ base rb Kn os ks → os.length = ks.length
  | [], [], _ => rfl
  | [], _ :: _, h => h.elim
  | _ :: _, [], h => h.elim
  | _ :: os, _ :: ks, h => by rw [List.length_cons, List.length_cons, h.2.len]
theorem OV2.iv {π : Sh} {σ τ : St} {base rb K a b c d : Int} {Kn : List Int} {os ks : List Kid} (h : OV2 π σ τ base rb Kn os ks) (hv : IV K a b c d os) : IV K a b c d ks := by
  have l0 : os = [] → ks = [] := fun e => by subst e; cases ks with | nil => rfl | cons _ _ => exact h.elim
  have l1 : (∃ q, os = [(q, 1, 1)]) → ∃ q, ks = [(q, 1, 1)] := fun ⟨q, e⟩ => by
    subst e
    match ks, h with
    | [k], h => exact ⟨k.1, by have : k.2 = (1, 1) := h.1.1.symm; rw [← this]⟩
    | _ :: _ :: _, h => exact h.2.elim
  have l2 : (∃ q r, os = [(q, 1, 1), (r, 1, 1)]) → ∃ q r, ks = [(q, 1, 1), (r, 1, 1)] := fun ⟨q, r, e⟩ => by
    subst e
    match ks, h with
    | [k, k'], h => exact ⟨k.1, k'.1, by have e1 : k.2 = (1, 1) := h.1.1.symm; have e2 : k'.2 = (1, 1) := h.2.1.1.symm; exact List.cons_eq_cons.mpr ⟨Prod.ext rfl e1, List.cons_eq_cons.mpr ⟨Prod.ext rfl e2, rfl⟩⟩⟩
    | _ :: _ :: _ :: _, h => exact h.2.2.elim
  have lw : wgt os → wgt ks := fun ⟨w1, w2⟩ => ⟨fun e => w1 (by have := h.len; rw [e] at this; exact List.length_eq_zero_iff.mp this), by have := h.len; omega⟩
  have l5 : (∀ k ∈ os, k.2 = (1, 1)) → ∀ k ∈ ks, k.2 = (1, 1) := by
    have : ∀ (os ks : List Kid), OV2 π σ τ base rb Kn os ks → (∀ k ∈ os, k.2 = (1, 1)) → ∀ k ∈ ks, k.2 = (1, 1) := by
      intro os
      induction os with
      | nil => intro ks h _ k hk; cases ks with | nil => simp at hk | cons _ _ => exact h.elim
      | cons o os ih =>
        intro ks h ho k hk
        cases ks with
        | nil => exact h.elim
        | cons k' ks =>
          rcases List.mem_cons.mp hk with e | hk
          · rw [e, ← h.1.1]; exact ho o (by simp)
          · exact ih ks h.2 (fun x hx => ho x (by simp [hx])) k hk
    exact this os ks h
  unfold IV at hv ⊢
  rcases hv with ⟨h1, h2, h3⟩ | ⟨h1, h2, h3⟩ | ⟨h1, h2⟩ | ⟨h1, h2⟩ | ⟨h1, h2, h3⟩ | ⟨h1, h2⟩ | ⟨h1, h2, h3⟩ | ⟨h1, h2, h3⟩ | ⟨h1, h2, h3⟩ | ⟨h1, h2, h3⟩ | ⟨h1, h2, h3⟩ | ⟨h1, h2, h3⟩ | ⟨h1, h2, h3⟩ | ⟨h1, h2, h3⟩ | ⟨h1, h2, h3⟩ | ⟨h1, h2, h3⟩ | ⟨h1, h2, h3⟩ | ⟨h1, h2, h3⟩ | ⟨h1, h2⟩ | ⟨h1, h2, h3⟩
  · exact Or.inl ⟨h1, l0 h2, h3⟩
  · exact Or.inr (Or.inl ⟨h1, l0 h2, h3⟩)
  · exact Or.inr (Or.inr (Or.inl ⟨h1, l0 h2⟩))
  · exact Or.inr (Or.inr (Or.inr (Or.inl ⟨h1, lw h2⟩)))
  · exact Or.inr (Or.inr (Or.inr (Or.inr (Or.inl ⟨h1, lw h2, l5 h3⟩))))
  · exact Or.inr (Or.inr (Or.inr (Or.inr (Or.inr (Or.inl ⟨h1, lw h2⟩)))))
  · exact Or.inr (Or.inr (Or.inr (Or.inr (Or.inr (Or.inr (Or.inl ⟨h1, lw h2, h3⟩))))))
  · exact Or.inr (Or.inr (Or.inr (Or.inr (Or.inr (Or.inr (Or.inr (Or.inl ⟨h1, l1 h2, h3⟩)))))))
  · exact Or.inr (Or.inr (Or.inr (Or.inr (Or.inr (Or.inr (Or.inr (Or.inr (Or.inl ⟨h1, l1 h2, h3⟩))))))))
  · exact Or.inr (Or.inr (Or.inr (Or.inr (Or.inr (Or.inr (Or.inr (Or.inr (Or.inr (Or.inl ⟨h1, l1 h2, h3⟩)))))))))
  · exact Or.inr (Or.inr (Or.inr (Or.inr (Or.inr (Or.inr (Or.inr (Or.inr (Or.inr (Or.inr (Or.inl ⟨h1, l1 h2, h3⟩))))))))))
  · exact Or.inr (Or.inr (Or.inr (Or.inr (Or.inr (Or.inr (Or.inr (Or.inr (Or.inr (Or.inr (Or.inr (Or.inl ⟨h1, l2 h2, h3⟩)))))))))))
  · exact Or.inr (Or.inr (Or.inr (Or.inr (Or.inr (Or.inr (Or.inr (Or.inr (Or.inr (Or.inr (Or.inr (Or.inr (Or.inl ⟨h1, l2 h2, h3⟩))))))))))))
  · exact Or.inr (Or.inr (Or.inr (Or.inr (Or.inr (Or.inr (Or.inr (Or.inr (Or.inr (Or.inr (Or.inr (Or.inr (Or.inr (Or.inl ⟨h1, l2 h2, h3⟩)))))))))))))
  · exact Or.inr (Or.inr (Or.inr (Or.inr (Or.inr (Or.inr (Or.inr (Or.inr (Or.inr (Or.inr (Or.inr (Or.inr (Or.inr (Or.inr (Or.inl ⟨h1, l1 h2, h3⟩))))))))))))))
  · exact Or.inr (Or.inr (Or.inr (Or.inr (Or.inr (Or.inr (Or.inr (Or.inr (Or.inr (Or.inr (Or.inr (Or.inr (Or.inr (Or.inr (Or.inr (Or.inl ⟨h1, l1 h2, h3⟩)))))))))))))))
  · exact Or.inr (Or.inr (Or.inr (Or.inr (Or.inr (Or.inr (Or.inr (Or.inr (Or.inr (Or.inr (Or.inr (Or.inr (Or.inr (Or.inr (Or.inr (Or.inr (Or.inl ⟨h1, l1 h2, h3⟩))))))))))))))))
  · exact Or.inr (Or.inr (Or.inr (Or.inr (Or.inr (Or.inr (Or.inr (Or.inr (Or.inr (Or.inr (Or.inr (Or.inr (Or.inr (Or.inr (Or.inr (Or.inr (Or.inr (Or.inl ⟨h1, l1 h2, h3⟩)))))))))))))))))
  · exact Or.inr (Or.inr (Or.inr (Or.inr (Or.inr (Or.inr (Or.inr (Or.inr (Or.inr (Or.inr (Or.inr (Or.inr (Or.inr (Or.inr (Or.inr (Or.inr (Or.inr (Or.inr (Or.inl ⟨h1, l2 h2⟩))))))))))))))))))
  · exact Or.inr (Or.inr (Or.inr (Or.inr (Or.inr (Or.inr (Or.inr (Or.inr (Or.inr (Or.inr (Or.inr (Or.inr (Or.inr (Or.inr (Or.inr (Or.inr (Or.inr (Or.inr (Or.inr ⟨h1, l2 h2, h3⟩))))))))))))))))))
theorem PRn.kok {π : Sh} {σ τ : St} {r p : Int} (h : PRn π σ τ r p) (hr : ob π r 5) (w : Int × Int) (hw : (1 ≤ w.1 ∧ w.1 ≤ 16) ∧ 1 ≤ w.2 ∧ w.2 ≤ 16) : KOK τ (p, w) ∧ 0 ≤ p ∧ p < fl τ 48 0 := by
  rcases h with ⟨h, _⟩ | ⟨h1, h2, h3, h4⟩
  · have := hr.1; omega
  · exact ⟨⟨h1.rng, ⟨h3, h4⟩, hw.1, hw.2⟩, h1.pos.1, h1.lt⟩
/-- an operand's value in the class -/
theorem OVa.vr {g : Gl} {π : Sh} {σ τ σ1 τ1 : St} {ℓ D P base rb o p o' : Int} {L : List Stq} {Kn : List Int} (hD : DS g D P L Kn o') (hC : FC g π σ) (hR : FRr g τ) (h85 : fl σ1 85 3 = ℓ) (e6 : el σ1 6 ℓ = D) (e7 : el σ1 7 ℓ = base) (hb : 0 ≤ base ∧ rb ≤ 512) (hX : HX π σ π σ1) (h5 : ∀ i, i < rb → el σ1 5 i = el σ 5 i) (hT : TX τ τ1) (h : OVa π σ τ base rb Kn o p) : ∃ r, VR π σ1 o r ∧ PRn π σ1 τ1 r p ∧ ob π r 5 := by
  obtain ⟨d1, d2, d3, d4, d5, d6⟩ := hD
  have x1 : HX g.1 g.2.1 π σ1 := hC.hx.tr hX
  have t1 : TX g.2.2.1 τ1 := hR.2.2.tr hT
  have oD : ob π D 1 := d1.ext x1.1
  rcases h with ⟨a1, a2, a3⟩ | ⟨a1, a2, a3, a4⟩
  · have d5' : LSq π σ1 (fl g.2.1 24 D) (fun r p => ob π r 5 ∧ PRn π σ1 τ1 r p) Kn := d5.grow x1 (fun r e _ hr => ⟨hr.1.ext x1.1, hr.2.grow x1 t1⟩)
    obtain ⟨b1, b2, b3, b4, b5, b6, b7⟩ := d5'.at a3
    have e24 : fl σ1 24 D = fl g.2.1 24 D := x1.fd (in1 (by omega)) d1.2.1
    have s2 := d5'.2.1
    have s3 := d5'.2.2.1
    refine ⟨_, ⟨b6, by rw [h85, e6]; exact oD, Or.inl ?_⟩, b7, b6⟩
    rw [h85, e6, e24]
    refine ⟨a1, a2, d5'.1, by omega, by omega, b2, by omega, b5, ?_⟩
    rw [show ((-o - 1).toNat : Int) = -o - 1 by omega]
  · refine ⟨el σ1 5 (base + o), ⟨by rw [h5 _ a2]; exact a3, by rw [h85, e6]; exact oD, Or.inr ?_⟩, ?_, by rw [h5 _ a2]; exact a3⟩
    · rw [h85, e7]; exact ⟨a1, by omega, by omega, rfl⟩
    · rw [h5 _ a2]; exact a4.grow hX hT
theorem OV2.opr {g : Gl} {π : Sh} {σ τ σ1 τ1 : St} {ℓ D P base rb o' : Int} {L : List Stq} {Kn : List Int} (hD : DS g D P L Kn o') (hC : FC g π σ) (hR : FRr g τ) (h85 : fl σ1 85 3 = ℓ) (e6 : el σ1 6 ℓ = D) (e7 : el σ1 7 ℓ = base) (hb : 0 ≤ base ∧ rb ≤ 512) (hX : HX π σ π σ1) (h5 : ∀ i, i < rb → el σ1 5 i = el σ 5 i) (hT : TX τ τ1) : ∀ (os ks : List Kid), OV2 π σ τ base rb Kn os ks → (∀ o ∈ os, (1 ≤ o.2.1 ∧ o.2.1 ≤ 16) ∧ 1 ≤ o.2.2 ∧ o.2.2 ≤ 16) → OPR π σ1 τ1 os ks ∧ ∀ k ∈ ks, KOK τ1 k ∧ 0 ≤ k.1 ∧ k.1 < fl τ1 48 0 := by
  intro os
  induction os with
  | nil =>
    intro ks h _
    cases ks with
    | nil => exact ⟨trivial, fun k hk => by simp at hk⟩
    | cons _ _ => exact h.elim
  | cons o os ih =>
    intro ks h hw
    cases ks with
    | nil => exact h.elim
    | cons k ks =>
      obtain ⟨⟨h1, h2⟩, h3⟩ := h
      obtain ⟨r, r1, r2, r3⟩ := h2.vr hD hC hR h85 e6 e7 hb hX h5 hT
      have kk := r2.kok r3 k.2 (by rw [← h1]; exact hw o (by simp))
      obtain ⟨i1, i2⟩ := ih ks h3 (fun x hx => hw x (by simp [hx]))
      refine ⟨⟨⟨h1, r, r1, r2, kk.1⟩, i1⟩, fun x hx => ?_⟩
      rcases List.mem_cons.mp hx with e | hx
      · rw [e]; exact kk
      · exact i2 x hx
section TM
variable {N : Nat}
/-- a turn of the class's maker -/
theorem c_turn {g : Gl} {π : Sh} {σ τ : St} {t s n : Nat} {ℓ D P base o : Int} {j : Nat} {L : List Stq} {Kn : List Int} {x : Stq} (hD : DS g D P L Kn o) (hJ : JS g π σ τ t s ℓ) (hF : FM π σ τ ℓ D P base j) (hx : L[j]? = some x) : ∃ st, SQ π (se σ 8 ℓ (j + 1)) st x ∧ Mk_make_28 N (n + 1) π σ t = Option.bind (Mk_carryOut N π (se σ 8 ℓ (j + 1)) st (base + P + j)) (fun r => Mk_make_28 N n r.1 r.2 ((t + 1 : Nat) : Int)) := by
  obtain ⟨j1, j2, j3, ⟨l1, l2, l3, l4⟩, j5, j6, j7, j8, j9⟩ := hJ
  obtain ⟨⟨f1, f2, f3⟩, f4, f5, f6, f7⟩ := hF
  obtain ⟨d1, d2, d3, d4, d5, d6⟩ := hD
  have hX := j1.hx
  have oD := d1.ext hX.1
  have d4' : LSq π σ (fl g.2.1 23 D) (SQ π σ) L := d4.grow hX (fun r e _ hr => hr.grow hX)
  obtain ⟨b1, b2, b3, b4, b5, b6⟩ := d4'.at hx
  obtain ⟨c1, c2, c3, -⟩ := id d4'
  have e23 : fl σ 23 D = fl g.2.1 23 D := hX.fd (in1 (by omega)) d1.2.1
  have e22 : fl σ 22 D = P := (hX.fd (in1 (by omega)) d1.2.1).trans d2
  obtain ⟨σ1, hσ1⟩ : ∃ σ1, σ1 = se σ 8 ℓ ((j : Int) + 1) := ⟨_, rfl⟩
  have n56 := b5
  have f1' : ∀ (f : Nat) i, fl σ1 f i = fl σ f i := fun f i => by rw [hσ1]; rfl
  have e1' : ∀ a i : Int, a ≠ 8 → el σ1 a i = el σ a i := fun a i ha => by rw [hσ1, el_sen _ _ _ _ ha]
  have hX1 : HX π σ π σ1 := HX.of ⟨fun f i _ => f1' f i, fun a i ha => e1' a i (by omega)⟩
  have sq := b6.grow hX1
  have ost : ob π (el σ (fl σ 1 (fl g.2.1 23 D)) j) 10 := by
    rcases b6 with ⟨_, h⟩ | ⟨_, h⟩
    · exact h.1
    · exact h.1
  refine ⟨_, by rw [hσ1] at sq; exact sq, ?_⟩
  have t2 : (t : Int) ≤ 400 := by omega
  have lg : L_get π σ1 (fl g.2.1 23 D) j = some (σ1, el σ (fl σ 1 (fl g.2.1 23 D)) j) := by
    rw [L_get, f1', f1', grd_t c1, grd_t (by exact ⟨by omega, by omega⟩), c2, grd_t (by exact ⟨by omega, by omega⟩), grd_t b1, grd_t b2, grd_t (by exact ⟨b1.1, by omega, by omega⟩), e1' _ _ (by omega)]
  rw [Mk_make_28, grd_t (by exact ⟨by omega, by omega⟩), if_pos (by omega), j6.1, grd_t (by exact ⟨by omega, by omega⟩), if_pos rfl, l1, grd_t (by exact ⟨by omega, by omega⟩), bnd, bnd, f1, f3, grd_t oD, e23, L_size, grd_t c1, Option.bind_some, grd_t c1, grd_t (by exact ⟨by omega, by omega⟩)]
  simp only
  rw [c2, grd_t (by exact ⟨by omega, by omega⟩), if_pos (by omega), l1, grd_t (by exact ⟨by omega, by omega⟩), bnd, ← hσ1, e23, lg, Option.bind_some, grd_t c1]
  simp only
  rw [grd_t ost, f1' 85 3, l1, grd_t (by exact ⟨by omega, by omega⟩), e1' 7 _ (by decide), f2, f1' 22, e22]
  rfl
end TM
