/-! a piece is applied: the class -/
section AP1
variable {N : Nat} {Xo : Int → Prop} {rA : Sh → St → Int → Int → Int → Option (Sh × St × Int)}
/-- a piece of the class -/
def PCf (π : Sh) (σ : St) (pc kd place a b c d : Int) : Prop := ob π pc 6 ∧ fl σ 120 pc = kd ∧ fl σ 121 pc = place ∧ fl σ 122 pc = a ∧ fl σ 123 pc = b ∧ fl σ 124 pc = c ∧ fl σ 125 pc = d
def mkS1 (N : Nat) (π : Sh) (σ : St) (D pc kd p : Int) (kont : Sh → St → Int → Option (Sh × St × Int)) : Option (Sh × St × Int) := Option.bind (Pc_spanStep N π σ pc kd) (fun r => Option.bind (Sp_give N r.1 r.2.1 r.2.2 p) (fun r2 => grd (ob r.1 r.2.2 10) (Option.bind (Df_add N r2.1 r2.2.1 D r2.2.2) (fun r3 => grd (ob r2.1 D 1) (kont r3.1 r3.2.1 r3.2.2)))))
def mkS2 (N : Nat) (π : Sh) (σ : St) (D pc kd p q : Int) (kont : Sh → St → Int → Option (Sh × St × Int)) : Option (Sh × St × Int) := Option.bind (Pc_spanStep N π σ pc kd) (fun r => Option.bind (Sp_give N r.1 r.2.1 r.2.2 p) (fun r2 => grd (ob r.1 r.2.2 10) (Option.bind (Sp_give N r2.1 r2.2.1 r2.2.2 q) (fun r4 => grd (ob r2.1 r2.2.2 10) (Option.bind (Df_add N r4.1 r4.2.1 D r4.2.2) (fun r3 => grd (ob r4.1 D 1) (kont r3.1 r3.2.1 r3.2.2)))))))
theorem c_span {π : Sh} {σ : St} {pc f place a b c d kd : Int} (hp : PCf π σ pc f place a b c d) : ∃ π' σ', Pc_spanStep N π σ pc kd = some (π', σ', (nn π : Int)) ∧ FRn (nn π) π σ π' σ' ∧ nn π' = nn π + 2 ∧ sw π' = sw π + 16 ∧ FSp σ' (nn π) kd place a b c d 0 0 (-1) ∧ OPs π' σ' (nn π) (nn π) [] ∧ (fl σ' 211 (nn π) = -1 ∧ fl σ' 212 (nn π) = -1 ∧ fl σ' 213 (nn π) = -1) ∧ ln π' (fl σ' 210 (nn π)) = 2 := by
  obtain ⟨h1, h2, h3, h4, h5, h6, h7⟩ := hp
  have hpc := h1.2.1
  have z : ∀ f : Nat, fl (zO σ (nn π) dfl) f pc = fl σ f pc := fun f => by rw [fl_zO, if_neg (by omega)]
  obtain ⟨π1, σ1, s1, s2, s3, s4, s5, s6, s7, s8⟩ := c_spInitB (N := N) (π := π) (σ := σ) (kd := kd) (place := place) (a := a) (b := b)
  have e : ∀ f : Nat, fl σ1 f pc = fl σ f pc := fun f => s2.2.1 f pc (by omega)
  obtain ⟨f0, f1, f2, f3, f4, f5, f6, f7, f8⟩ := s5
  obtain ⟨o1, o2, o3, o4⟩ := id s6
  have k : ∀ (f : Nat) (i : Int), f ≠ 204 → f ≠ 205 → fl (sf (sf σ1 204 (nn π) c) 205 (nn π) d) f i = fl σ1 f i := fun f i a b => by rw [fl_sfn _ _ _ _ b, fl_sfn _ _ _ _ a]
  refine ⟨π1, sf (sf σ1 204 (nn π) c) 205 (nn π) d, ?_, (s2.sf 204 _ (Int.le_refl _)).sf 205 _ (Int.le_refl _), s3, s4, ⟨by rw [k 200 _ (by decide) (by decide)]; exact f0, by rw [k 201 _ (by decide) (by decide)]; exact f1, by rw [k 202 _ (by decide) (by decide)]; exact f2, by rw [k 203 _ (by decide) (by decide)]; exact f3, by rw [fl_sfn _ _ _ _ (by decide), fl_sfs], by rw [fl_sfs], by rw [k 206 _ (by decide) (by decide)]; exact f6, by rw [k 207 _ (by decide) (by decide)]; exact f7, by rw [k 208 _ (by decide) (by decide)]; exact f8⟩, s6.cg (ext.rf _) (fun f hf => k f _ (by omega) (by omega)) (fun _ => rfl), by rw [k 211 _ (by decide) (by decide), k 212 _ (by decide) (by decide), k 213 _ (by decide) (by decide)]; exact s7, by rw [k 210 _ (by decide) (by decide)]; exact s8⟩
  rw [Pc_spanStep, Pc_spanStep_3, grd_t (h1.ext (ext_nO _ _ _)), z 121, z 122, z 123, h3, h4, h5, s1, Option.bind_some, grd_t (ob_nO π 10 14), Pc_spanStep_20, grd_t (h1.ext s2.1), grd_t o1, e 124, e 125, h6, h7]
theorem mkS1_ok {π : Sh} {σ τ : St} {D P K pc f place a b c d p : Int} {L : List Stq} {Kn : List Int} (hp : PCf π σ pc f place a b c d) (hS : SHs π) (h : BDy Xo π σ τ D P L Kn) (hL : L.length ≤ 20000) (hK : K = 16 ∨ K = 20) : ∃ π' σ', (∀ kont, mkS1 N π σ D pc (kcO K) p kont = kont π' σ' (P + L.length)) ∧ ADo Xo D P L Kn π σ τ [(K, place, a, b, c, d, 0, [(p, 1, 1)])] π' σ' 6 60 := by
  obtain ⟨π1, σ1, s1, s2, s3, s4, s5, s6, s7, s8⟩ := c_span (N := N) (kd := kcO K) hp
  obtain ⟨π2, σ2, g1, g2, g3, g4, g5, g6, g7, g8⟩ := c_give1 (N := N) (p := p) s6 s5 s7 (by omega) (by simp)
  have g7' := g7 (by simp) (by omega)
  obtain ⟨π3, σ3, u1, u2, u3, u4, u5, u6⟩ := c_addSt (N := N) (K := K) (a := a) (b := b) (c := c) (d := d) hS h hL (s2.tr g2 (Int.le_refl _)) g3 (by simp) g4 g5 (by omega) (fun _ => by rw [if_neg (by omega)]) (fun _ => by rw [if_neg (by omega)]) (fun _ => rfl) (fun _ => rfl) (by omega)
  refine ⟨π3, σ3, ?_, u3, u4, u5, u6⟩
  intro kont
  rw [mkS1, s1, Option.bind_some]
  simp only
  rw [g1, Option.bind_some, grd_t s6.1, u1, Option.bind_some, grd_t u2]
theorem mkS2_ok {π : Sh} {σ τ : St} {D P K pc f place a b c d p q : Int} {L : List Stq} {Kn : List Int} (hp : PCf π σ pc f place a b c d) (hS : SHs π) (h : BDy Xo π σ τ D P L Kn) (hL : L.length ≤ 20000) (hK : K = 16 ∨ K = 20) : ∃ π' σ', (∀ kont, mkS2 N π σ D pc (kcO K) p q kont = kont π' σ' (P + L.length)) ∧ ADo Xo D P L Kn π σ τ [(K, place, a, b, c, d, 0, [(p, 1, 1), (q, 1, 1)])] π' σ' 6 60 := by
  obtain ⟨π1, σ1, s1, s2, s3, s4, s5, s6, s7, s8⟩ := c_span (N := N) (kd := kcO K) hp
  obtain ⟨π2, σ2, g1, g2, g3, g4, g5, g6, g7, g8⟩ := c_give1 (N := N) (p := p) s6 s5 s7 (by omega) (by simp)
  have g7' := g7 (by simp) (by omega)
  obtain ⟨π3, σ3, v1, v2, v3, v4, v5, v6, v7, v8⟩ := c_give1 (N := N) (p := q) g3 g4 g5 g6 (by simp)
  have v7' := v7 (by simp) (by omega)
  obtain ⟨π4, σ4, u1, u2, u3, u4, u5, u6⟩ := c_addSt (N := N) (K := K) (a := a) (b := b) (c := c) (d := d) hS h hL ((s2.tr g2 (Int.le_refl _)).tr v2 (Int.le_refl _)) v3 (by simp) v4 v5 (by omega) (fun _ => by rw [if_neg (by omega)]) (fun _ => by rw [if_neg (by omega)]) (fun _ => rfl) (fun _ => rfl) (by omega)
  refine ⟨π4, σ4, ?_, u3, u4, u5, u6⟩
  intro kont
  rw [mkS2, s1, Option.bind_some]
  simp only
  rw [g1, Option.bind_some, grd_t s6.1]
  simp only
  rw [v1, Option.bind_some, grd_t g3.1, u1, Option.bind_some, grd_t u2]
/-- which kind -/
theorem pc_sel {π : Sh} {σ : St} {pc f place a b c d : Int} (hp : PCf π σ pc f place a b c d) : ob (nO π 10 14) pc 6 ∧ ∀ g : Nat, fl (zO σ (nn π) dfl) g pc = fl σ g pc := ⟨hp.1.ext (ext_nO _ _ _), fun g => by rw [fl_zO, if_neg (by have := hp.1.2.1; omega)]⟩

/-- functions of one pattern -/
theorem ap_one_ok {π : Sh} {σ τ : St} {D P pc f place a b c d p : Int} {L : List Stq} {Kn : List Int} (hp : PCf π σ pc f place a b c d) (hf : isOne f) (hS : SHs π) (h : BDy Xo π σ τ D P L Kn) (hL : L.length ≤ 20000) : ∃ π' σ', Pc_apply N rA π σ pc D p = some (π', σ', P + L.length) ∧ ADo Xo D P L Kn π σ τ [((fK f a b c d).1, place, (fK f a b c d).2.1, (fK f a b c d).2.2.1, (fK f a b c d).2.2.2.1, (fK f a b c d).2.2.2.2, 0, [(p, 1, 1)])] π' σ' 6 60 := by
  obtain ⟨o1, z⟩ := pc_sel hp
  obtain ⟨h1, h2, h3, h4, h5, h6, h7⟩ := id hp
  rcases hf with hf | hf | hf | hf | hf | hf | hf | hf | hf | hf | hf <;> subst hf
  · obtain ⟨π', σ', q1, q2⟩ := mk1_ok (N := N) (K := 9) (place := place) (A := a) (B := b) (a := a) (b := b) (p := p) hS h hL (by decide) (fun _ => by rw [if_neg (by decide)]) (fun _ => by rw [if_neg (by decide)])
    refine ⟨π', σ', ?_, q2⟩
    rw [Pc_apply, grd_t h1, h2, grd_t (by decide)]
    rw [if_pos rfl, Pc_apply_120, grd_t o1, z 121, h3, z 122, z 123, h4, h5, ← q1 (fun π σ o => some (π, σ, o))]
    rfl
  · obtain ⟨π', σ', q1, q2⟩ := mk1_ok (N := N) (K := 9) (place := place) (A := b) (B := a) (a := b) (b := a) (p := p) hS h hL (by decide) (fun _ => by rw [if_neg (by decide)]) (fun _ => by rw [if_neg (by decide)])
    refine ⟨π', σ', ?_, q2⟩
    rw [Pc_apply, grd_t h1, h2, grd_t (by decide)]
    iterate 1 rw [if_neg (by decide)]
    rw [if_pos rfl, Pc_apply_150, grd_t o1, z 121, h3, z 123, z 122, h5, h4, ← q1 (fun π σ o => some (π, σ, o))]
    rfl
  · obtain ⟨π', σ', q1, q2⟩ := mk1_ok (N := N) (K := 10) (place := place) (A := a) (B := b) (a := a) (b := b) (p := p) hS h hL (by decide) (fun _ => by rw [if_neg (by decide)]) (fun _ => by rw [if_neg (by decide)])
    refine ⟨π', σ', ?_, q2⟩
    rw [Pc_apply, grd_t h1, h2, grd_t (by decide)]
    iterate 2 rw [if_neg (by decide)]
    rw [if_pos rfl, Pc_apply_180, grd_t o1, z 121, h3, z 122, z 123, h4, h5, ← q1 (fun π σ o => some (π, σ, o))]
    rfl
  · obtain ⟨π', σ', q1, q2⟩ := mk1_ok (N := N) (K := 11) (place := place) (A := (-a)) (B := b) (a := a) (b := b) (p := p) hS h hL (by decide) (fun _ => by rw [if_pos rfl]) (fun _ => by rw [if_neg (by decide)])
    refine ⟨π', σ', ?_, q2⟩
    rw [Pc_apply, grd_t h1, h2, grd_t (by decide)]
    iterate 3 rw [if_neg (by decide)]
    rw [if_pos rfl, Pc_apply_210, grd_t o1, z 121, h3, z 122, z 123, h4, h5, ← q1 (fun π σ o => some (π, σ, o))]
    rfl
  · obtain ⟨π', σ', q1, q2⟩ := mk1i_ok (N := N) (K := 12) (place := place) (p := p) hS h hL (by decide)
    refine ⟨π', σ', ?_, q2⟩
    rw [Pc_apply, grd_t h1, h2, grd_t (by decide)]
    iterate 4 rw [if_neg (by decide)]
    rw [if_pos rfl, Pc_apply_241, grd_t o1, z 121, h3, ← q1 (fun π σ o => some (π, σ, o))]
    rfl
  · obtain ⟨π', σ', q1, q2⟩ := mk1_ok (N := N) (K := 17) (place := place) (A := a) (B := 0) (a := a) (b := 0) (p := p) hS h hL (by decide) (fun _ => by rw [if_neg (by decide)]) (fun _ => by rw [if_neg (by decide)])
    refine ⟨π', σ', ?_, q2⟩
    rw [Pc_apply, grd_t h1, h2, grd_t (by decide)]
    iterate 9 rw [if_neg (by decide)]
    rw [if_pos rfl, Pc_apply_263, grd_t o1, z 121, h3, z 122, h4, ← q1 (fun π σ o => some (π, σ, o))]
    rfl
  · obtain ⟨π', σ', q1, q2⟩ := mk1_ok (N := N) (K := 18) (place := place) (A := a) (B := 0) (a := a) (b := 0) (p := p) hS h hL (by decide) (fun _ => by rw [if_neg (by decide)]) (fun _ => by rw [if_neg (by decide)])
    refine ⟨π', σ', ?_, q2⟩
    rw [Pc_apply, grd_t h1, h2, grd_t (by decide)]
    iterate 10 rw [if_neg (by decide)]
    rw [if_pos rfl, Pc_apply_290, grd_t o1, z 121, h3, z 122, h4, ← q1 (fun π σ o => some (π, σ, o))]
    rfl
  · obtain ⟨π', σ', q1, q2⟩ := mk1_ok (N := N) (K := 19) (place := place) (A := a) (B := 0) (a := a) (b := 0) (p := p) hS h hL (by decide) (fun _ => by rw [if_neg (by decide)]) (fun _ => by rw [if_neg (by decide)])
    refine ⟨π', σ', ?_, q2⟩
    rw [Pc_apply, grd_t h1, h2, grd_t (by decide)]
    iterate 13 rw [if_neg (by decide)]
    rw [if_pos rfl, Pc_apply_317, grd_t o1, z 121, h3, z 122, h4, ← q1 (fun π σ o => some (π, σ, o))]
    rfl
  · obtain ⟨π', σ', q1, q2⟩ := mk1_ok (N := N) (K := 21) (place := place) (A := a) (B := 0) (a := a) (b := 0) (p := p) hS h hL (by decide) (fun _ => by rw [if_neg (by decide)]) (fun _ => by rw [if_pos (by decide), Int.mul_zero])
    refine ⟨π', σ', ?_, q2⟩
    rw [Pc_apply, grd_t h1, h2, grd_t (by decide)]
    iterate 16 rw [if_neg (by decide)]
    rw [if_pos rfl, Pc_apply_344, grd_t o1, z 121, h3, z 122, h4, ← q1 (fun π σ o => some (π, σ, o))]
    rfl
  · obtain ⟨π', σ', q1, q2⟩ := mk1_ok (N := N) (K := 22) (place := place) (A := a) (B := 0) (a := a) (b := 0) (p := p) hS h hL (by decide) (fun _ => by rw [if_neg (by decide)]) (fun _ => by rw [if_pos (by decide), Int.mul_zero])
    refine ⟨π', σ', ?_, q2⟩
    rw [Pc_apply, grd_t h1, h2, grd_t (by decide)]
    iterate 17 rw [if_neg (by decide)]
    rw [if_pos rfl, Pc_apply_371, grd_t o1, z 121, h3, z 122, h4, ← q1 (fun π σ o => some (π, σ, o))]
    rfl
  · obtain ⟨π', σ', q1, q2⟩ := mkS1_ok (N := N) (K := 20) (p := p) hp hS h hL (Or.inr rfl)
    refine ⟨π', σ', ?_, q2⟩
    rw [Pc_apply, grd_t h1, h2, grd_t (by decide)]
    iterate 20 rw [if_neg (by decide)]
    rw [if_pos rfl, ← q1 (fun π σ o => some (π, σ, o))]
    rfl
end AP1
