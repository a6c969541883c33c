/-! a piece is applied: with what was given to it -/
section AP2
variable {N : Nat} {Xo : Int → Prop} {rA : Sh → St → Int → Int → Int → Option (Sh × St × Int)}
/-- what was given to it -/
def PCa (π : Sh) (σ : St) (pc : Int) (oas : List Int) : Prop := (ob π (fl σ 129 pc) 22 ∧ ln π (fl σ 129 pc) = 3) ∧ fl σ 130 pc = oas.length ∧ oas.length ≤ 3 ∧ At (fun i o => el σ (fl σ 129 pc) i = o) 0 oas
theorem PCf.cg {π π' : Sh} {σ σ' : St} {pc kd place a b c d : Int} (h : PCf π σ pc kd place a b c d) (he : ext π π') (hf : ∀ f : Nat, 120 ≤ f → f ≤ 126 → fl σ' f pc = fl σ f pc) : PCf π' σ' pc kd place a b c d := by
  obtain ⟨h1, h2, h3, h4, h5, h6, h7⟩ := h
  exact ⟨h1.ext he, by rw [hf 120 (by omega) (by omega)]; exact h2, by rw [hf 121 (by omega) (by omega)]; exact h3, by rw [hf 122 (by omega) (by omega)]; exact h4, by rw [hf 123 (by omega) (by omega)]; exact h5, by rw [hf 124 (by omega) (by omega)]; exact h6, by rw [hf 125 (by omega) (by omega)]; exact h7⟩
theorem PCa.cg {π π' : Sh} {σ σ' : St} {pc : Int} {oas : List Int} (h : PCa π σ pc oas) (he : ext π π') (hf : ∀ f : Nat, f = 129 ∨ f = 130 → fl σ' f pc = fl σ f pc) (ha : ∀ j, el σ' (fl σ 129 pc) j = el σ (fl σ 129 pc) j) : PCa π' σ' pc oas := by
  obtain ⟨⟨h1, h2⟩, h3, h4, h5⟩ := h
  unfold PCa
  rw [hf 129 (by omega), hf 130 (by omega), (he.2.2 _ h1.2.1).2]
  exact ⟨⟨h1.ext he, h2⟩, h3, h4, h5.mono (fun i k _ _ _ hk => by rw [ha]; exact hk)⟩
/-- struct, mask, an operator -/
theorem ap_two_ok {π : Sh} {σ τ : St} {D P pc f place a b c d p oa : Int} {L : List Stq} {Kn : List Int} (hp : PCf π σ pc f place a b c d) (ha : PCa π σ pc [oa]) (hf : f = 14 ∨ f = 15) (hS : SHs π) (h : BDy Xo π σ τ D P L Kn) (hL : L.length ≤ 20000) : ∃ π' σ', Pc_apply N rA π σ pc D p = some (π', σ', P + L.length) ∧ ADo Xo D P L Kn π σ τ [((fK f a b c d).1, place, 0, 0, 0, 0, 0, [(oa, 1, 1), (p, 1, 1)])] π' σ' 6 60 := by
  obtain ⟨o1, z⟩ := pc_sel hp
  obtain ⟨h1, h2, h3, h4, h5, h6, h7⟩ := id hp
  have hpc := h1.2.1
  obtain ⟨⟨a1, a2⟩, a3, a4, a5⟩ := ha
  have aA := a1.2.1
  have e0 : el σ (fl σ 129 pc) 0 = oa := a5.1
  obtain ⟨K, hK⟩ : ∃ K, K = (fK f a b c d).1 := ⟨_, rfl⟩
  have kK : (f = 14 ∧ K = 23) ∨ (f = 15 ∧ K = 24) := by
    rcases hf with q | q <;> subst q
    · exact Or.inl ⟨rfl, by rw [hK]; rfl⟩
    · exact Or.inr ⟨rfl, by rw [hK]; rfl⟩
  rw [← hK]
  obtain ⟨π1, σ1, s1, s2, s3, s4, s5, s6, s7, s8⟩ := c_spInit (N := N) (π := π) (σ := σ) (kd := kcO K) (place := place)
  obtain ⟨π2, σ2, g1, g2, g3, g4, g5, g6, g7, g8⟩ := c_give1 (N := N) (p := oa) s6 s5 s7 (by omega) (by simp)
  have g7' := g7 (by simp) (by omega)
  obtain ⟨π3, σ3, v1, v2, v3, v4, v5, v6, v7, v8⟩ := c_give1 (N := N) (p := p) g3 g4 g5 g6 (by simp)
  have v7' := v7 (by simp) (by omega)
  obtain ⟨π4, σ4, u1, u2, u3, u4, u5, u6⟩ := c_addSt (N := N) (K := K) (a := 0) (b := 0) (c := 0) (d := 0) hS h hL ((s2.tr g2 (Int.le_refl _)).tr v2 (Int.le_refl _)) v3 (by simp) v4 v5 (by omega) (fun _ => by split <;> rfl) (fun _ => by split <;> rfl) (fun e => by omega) (fun e => by omega) (by omega)
  refine ⟨π4, σ4, ?_, u3, u4, u5, u6⟩
  have k129 : fl σ1 129 pc = fl σ 129 pc := s2.2.1 129 pc (by omega)
  have kel : el σ1 (fl σ 129 pc) 0 = oa := by rw [s2.2.2 _ _ aA]; exact e0
  have i0 : ina π1 (fl σ 129 pc) 0 := ⟨by decide, by rw [(s2.1.2.2 _ aA).2]; omega, by decide⟩
  rw [Pc_apply, grd_t h1, h2]
  rcases kK with ⟨q, q'⟩ | ⟨q, q'⟩
  · rw [q, grd_t (by decide)]
    iterate 14 rw [if_neg (by decide)]
    rw [q'] at s1
    have s1' : Sp_init N (nO π 10 14) (zO σ (nn π) dfl) (nn π) 19 place = some (π1, σ1) := s1
    rw [if_pos rfl, Pc_apply_398, grd_t o1, z 121, h3, s1', Option.bind_some, grd_t (ob_nO π 10 14), Pc_apply_408, grd_t (h1.ext s2.1), k129, grd_t (a1.ext s2.1), grd_t i0, kel, g1, Option.bind_some, grd_t s6.1, Pc_apply_417]
    simp only
    rw [v1, Option.bind_some, grd_t g3.1, Pc_apply_421, u1, Option.bind_some, grd_t u2, Pc_apply_424]
  · rw [q, grd_t (by decide)]
    iterate 15 rw [if_neg (by decide)]
    rw [q'] at s1
    have s1' : Sp_init N (nO π 10 14) (zO σ (nn π) dfl) (nn π) 20 place = some (π1, σ1) := s1
    rw [if_pos rfl, Pc_apply_429, grd_t o1, z 121, h3, s1', Option.bind_some, grd_t (ob_nO π 10 14), Pc_apply_439, grd_t (h1.ext s2.1), k129, grd_t (a1.ext s2.1), grd_t i0, kel, g1, Option.bind_some, grd_t s6.1, Pc_apply_448]
    simp only
    rw [v1, Option.bind_some, grd_t g3.1, Pc_apply_452, u1, Option.bind_some, grd_t u2, Pc_apply_455]
theorem ap_op_ok {π : Sh} {σ τ : St} {D P pc place a b c d p oa : Int} {L : List Stq} {Kn : List Int} (hp : PCf π σ pc 21 place a b c d) (ha : PCa π σ pc [oa]) (hS : SHs π) (h : BDy Xo π σ τ D P L Kn) (hL : L.length ≤ 20000) : ∃ π' σ', Pc_apply N rA π σ pc D p = some (π', σ', P + L.length) ∧ ADo Xo D P L Kn π σ τ [(25, place, a, 0, 0, 0, 0, [(p, 1, 1), (oa, 1, 1)])] π' σ' 6 60 := by
  obtain ⟨o1, z⟩ := pc_sel hp
  obtain ⟨h1, h2, h3, h4, h5, h6, h7⟩ := id hp
  have hpc := h1.2.1
  obtain ⟨⟨a1, a2⟩, a3, a4, a5⟩ := ha
  have aA := a1.2.1
  have e0 : el σ (fl σ 129 pc) 0 = oa := a5.1
  obtain ⟨π1, σ1, s1, s2, s3, s4, s5, s6, s7, s8⟩ := c_spInitB (N := N) (π := π) (σ := σ) (kd := kcO 25) (place := place) (a := a) (b := 0)
  have s1' : Sp_initB N (nO π 10 14) (zO σ (nn π) dfl) (nn π) 21 place a 0 = some (π1, σ1) := s1
  obtain ⟨π2, σ2, g1, g2, g3, g4, g5, g6, g7, g8⟩ := c_give1 (N := N) (p := p) s6 s5 s7 (by omega) (by simp)
  have g7' := g7 (by simp) (by omega)
  obtain ⟨π3, σ3, v1, v2, v3, v4, v5, v6, v7, v8⟩ := c_give1 (N := N) (p := oa) g3 g4 g5 g6 (by simp)
  have v7' := v7 (by simp) (by omega)
  obtain ⟨π4, σ4, u1, u2, u3, u4, u5, u6⟩ := c_addSt (N := N) (K := 25) (a := a) (b := 0) (c := 0) (d := 0) hS h hL ((s2.tr g2 (Int.le_refl _)).tr v2 (Int.le_refl _)) v3 (by simp) v4 v5 (by decide) (fun _ => by rw [if_neg (by decide)]) (fun _ => by rw [if_neg (by decide)]) (fun e => by omega) (fun e => by omega) (by omega)
  refine ⟨π4, σ4, ?_, u3, u4, u5, u6⟩
  have fr := s2.tr g2 (Int.le_refl _)
  have k129 : fl σ2 129 pc = fl σ 129 pc := fr.2.1 129 pc (by omega)
  have kel : el σ2 (fl σ 129 pc) 0 = oa := by rw [fr.2.2 _ _ aA]; exact e0
  have i0 : ina π2 (fl σ 129 pc) 0 := ⟨by decide, by rw [(fr.1.2.2 _ aA).2]; omega, by decide⟩
  rw [Pc_apply, grd_t h1, h2, grd_t (by decide)]
  iterate 21 rw [if_neg (by decide)]
  rw [if_pos rfl, Pc_apply_460, grd_t o1, z 121, z 122, h3, h4, s1', Option.bind_some, grd_t (ob_nO π 10 14), Pc_apply_475, g1, Option.bind_some, grd_t s6.1, Pc_apply_479]
  simp only
  rw [grd_t (h1.ext fr.1), k129, grd_t (a1.ext fr.1), grd_t i0, kel, v1, Option.bind_some, grd_t g3.1, Pc_apply_488, u1, Option.bind_some, grd_t u2, Pc_apply_491]
/-- a definition: all that was given, one after another -/
theorem use_lp {π0 : Sh} {σ0 : St} {pc s n0 kd place A B C E us : Int} {oas : List Int} (h1 : ob π0 pc 6) (hpc : pc < n0) (ha : PCa π0 σ0 pc oas) (hA : fl σ0 129 pc < n0) (h0 : n0 ≤ nn π0) : ∀ (m n : Nat) (i : Nat) (π : Sh) (σ : St), m < n → i + m = oas.length → FRn n0 π0 σ0 π σ → OPs π σ n0 s ((oas.take i).map (fun o => (o, (1 : Int), (1 : Int)))) → FSp σ s kd place A B C E 0 0 us → (fl σ 211 s = -1 ∧ fl σ 212 s = -1 ∧ fl σ 213 s = -1) → ∃ π' σ', Pc_useStep_24 N n π σ pc s i = some (π', σ', s) ∧ FRn n0 π0 σ0 π' σ' ∧ OPs π' σ' n0 s (oas.map (fun o => (o, (1 : Int), (1 : Int)))) ∧ FSp σ' s kd place A B C E 0 0 us ∧ (fl σ' 211 s = -1 ∧ fl σ' 212 s = -1 ∧ fl σ' 213 s = -1) ∧ (nn π' ≤ nn π + m ∧ (sw π' : Int) ≤ sw π + 20 * m)
  | _, 0, _, _, _, h, _, _, _, _, _ => absurd h (by omega)
  | 0, n + 1, i, π, σ, _, hi, hf, ho, hF, h7 => by
    obtain ⟨⟨a1, a2⟩, a3, a4, a5⟩ := ha
    refine ⟨π, σ, ?_, hf, ?_, hF, h7, by omega, by omega⟩
    · rw [Pc_useStep_24, grd_t (h1.ext hf.1), grd_t (by exact ⟨by omega, by omega⟩), hf.2.1 130 pc hpc, a3, grd_t (by exact ⟨by omega, by omega⟩), if_neg (by omega)]
    · have e : oas.take i = oas := List.take_of_length_le (by omega)
      rw [e] at ho; exact ho
  | m + 1, n + 1, i, π, σ, hm, hi, hf, ho, hF, h7 => by
    obtain ⟨⟨a1, a2⟩, a3, a4, a5⟩ := id ha
    have il : i < oas.length := by omega
    have lt : ((oas.take i).map (fun o => (o, (1 : Int), (1 : Int)))).length = i := by rw [List.length_map, List.length_take]; omega
    obtain ⟨π2, σ2, g1, g2, g3, g4, g5, g6, g7, g8⟩ := c_give1 (N := N) (p := oas[i]) ho hF h7 (by have := hf.1.1; omega) (by rw [lt]; omega)
    have e : (oas.take i).map (fun o => (o, (1 : Int), (1 : Int))) ++ [(oas[i], 1, 1)] = (oas.take (i + 1)).map (fun o => (o, (1 : Int), (1 : Int))) := by
      rw [List.take_succ_eq_append_getElem il, List.map_append]; rfl
    rw [e] at g3
    have lnA : ln π (fl σ 129 pc) = 3 := by rw [hf.2.1 129 pc hpc, (hf.1.2.2 _ (by omega)).2]; exact a2
    have k129 : fl σ 129 pc = fl σ0 129 pc := hf.2.1 129 pc hpc
    have oi : el σ (fl σ0 129 pc) i = oas[i] := by
      rw [hf.2.2 _ _ hA]
      have := At.get i a5 il
      rw [Int.zero_add] at this
      exact this
    obtain ⟨π', σ', u1, u2, u3, u4, u5, u6, u7⟩ := use_lp h1 hpc ha hA h0 m n (i + 1) π2 σ2 (by omega) (by omega) (hf.tr g2 (Int.le_refl _)) g3 g4 g5
    refine ⟨π', σ', ?_, u2, u3, u4, u5, by omega, ?_⟩
    · rw [Pc_useStep_24, grd_t (h1.ext hf.1), grd_t (by exact ⟨by omega, by omega⟩), hf.2.1 130 pc hpc, a3, grd_t (by exact ⟨by omega, by omega⟩), if_pos (by omega), k129, grd_t (a1.ext hf.1), grd_t (by rw [← k129]; exact ⟨by omega, by omega, by omega⟩), oi, g1, Option.bind_some, grd_t ho.1, Pc_useStep_42]
      exact u1
    · have := g8.2
      rw [lt] at this
      omega
/-- a definition with parameters -/
theorem ap_use_ok {π : Sh} {σ τ : St} {D P pc place a b c d p Dd dd : Int} {oas : List Int} {L : List Stq} {Kn : List Int} (hN : 100 ≤ N) (hp : PCf π σ pc 22 place a b c d) (ha : PCa π σ pc oas) (hu : fl σ 128 pc = Dd ∧ ob π Dd 1) (hS : SHs π) (h : BDy Xo π σ τ D P L Kn) (hL : L.length ≤ 20000) : ∃ π' σ', Pc_apply N rA π σ pc D p = some (π', σ', P + L.length) ∧ ADo Xo D P L Kn π σ τ [(99, place, Dd, dd, 0, 0, 0, (oas ++ [p]).map (fun o => (o, 1, 1)))] π' σ' 9 120 := by
  obtain ⟨o1, z⟩ := pc_sel hp
  obtain ⟨h1, h2, h3, h4, h5, h6, h7⟩ := id hp
  have hpc := h1.2.1
  have n56 := hS.1
  have aA := ha.1.1.2.1
  have al := ha.2.2.1
  obtain ⟨π1, σ1, s1, s2, s3, s4, s5, s6, s7, s8⟩ := c_spInit (N := N) (π := π) (σ := σ) (kd := 25) (place := place)
  obtain ⟨σ2, hσ2⟩ : ∃ σ2, σ2 = sf σ1 208 (nn π) Dd := ⟨_, rfl⟩
  have k2 : ∀ (f : Nat) (i : Int), f ≠ 208 → fl σ2 f i = fl σ1 f i := fun f i hf => by rw [hσ2, fl_sfn _ _ _ _ hf]
  have fr2 : FRn (nn π) π σ π1 σ2 := by rw [hσ2]; exact s2.sf 208 _ (Int.le_refl _)
  obtain ⟨f0, f1, f2, f3, f4, f5, f6, f7, f8⟩ := s5
  have F2 : FSp σ2 (nn π) 25 place 0 0 0 0 0 0 Dd := ⟨by rw [k2 200 _ (by decide)]; exact f0, by rw [k2 201 _ (by decide)]; exact f1, by rw [k2 202 _ (by decide)]; exact f2, by rw [k2 203 _ (by decide)]; exact f3, by rw [k2 204 _ (by decide)]; exact f4, by rw [k2 205 _ (by decide)]; exact f5, by rw [k2 206 _ (by decide)]; exact f6, by rw [k2 207 _ (by decide)]; exact f7, by rw [hσ2, fl_sfs]⟩
  have O2 : OPs π1 σ2 (nn π) (nn π) [] := s6.cg (ext.rf _) (fun f hf => k2 f _ (by omega)) (fun j => by rw [hσ2]; rfl)
  have c7 : fl σ2 211 (nn π) = -1 ∧ fl σ2 212 (nn π) = -1 ∧ fl σ2 213 (nn π) = -1 := by rw [k2 211 _ (by decide), k2 212 _ (by decide), k2 213 _ (by decide)]; exact s7
  have ha2 : PCa π1 σ2 pc oas := ha.cg fr2.1 (fun f _ => fr2.2.1 f pc (by omega)) (fun j => fr2.2.2 _ j (by omega))
  obtain ⟨π3, σ3, u1, u2, u3, u4, u5, u6, u7⟩ := use_lp (N := N) (pc := pc) (s := nn π) (n0 := nn π) (h1.ext fr2.1) (by omega) ha2 (by rw [fr2.2.1 129 pc (by omega)]; omega) (by omega) oas.length N 0 π1 σ2 (by omega) (by omega) (FRn.rf _ _ _) O2 F2 c7
  have ll : (oas.map (fun o => (o, (1 : Int), (1 : Int)))).length = oas.length := List.length_map ..
  obtain ⟨π4, σ4, v1, v2, v3, v4, v5, v6, v7, v8⟩ := c_give1 (N := N) (p := p) u3 u4 u5 (by have := u2.1.1; omega) (by rw [ll]; omega)
  rw [ll] at v8
  have oe : (oas.map (fun o => (o, (1 : Int), (1 : Int)))) ++ [(p, 1, 1)] = (oas ++ [p]).map (fun o => (o, (1 : Int), (1 : Int))) := by rw [List.map_append]; rfl
  rw [oe] at v3
  have le : ((oas ++ [p]).map (fun o => (o, (1 : Int), (1 : Int)))).length = oas.length + 1 := by rw [List.length_map, List.length_append]; rfl
  have fr4 : FRn (nn π) π σ π4 σ4 := (fr2.tr u2 (Int.le_refl _)).tr v2 (Int.le_refl _)
  have o7 := v3.2.2.2.2.2.2.1
  rw [le] at o7
  have sq : SQ π4 σ4 (nn π) (99, place, Dd, dd, 0, 0, 0, (oas ++ [p]).map (fun o => (o, 1, 1))) := Or.inl ⟨rfl, v3.1, v4.1, v4.2.1, v4.2.2.2.2.2.2.2.2, hu.2.ext fr4.1, v3.2.2.1, by show 1 ≤ ((oas ++ [p]).map (fun o => (o, (1 : Int), (1 : Int)))).length ∧ ((oas ++ [p]).map (fun o => (o, (1 : Int), (1 : Int)))).length ≤ 4; omega, v3.2.2.2.1, v3.2.2.2.2.2.1, by omega, by have := v3.2.2.2.2.1; omega, v3.2.2.2.2.2.2.2⟩
  obtain ⟨π5, σ5, w1, w2, w3, w4, w5, w6, w7, w8, w9⟩ := c_addNew (N := N) hS h hL fr4 sq (own_new v3 v5)
  refine ⟨π5, σ5, ?_, ⟨w4, w8, w9⟩, w5, w6.mono (by omega) (by omega), w7⟩
  have u1' : Pc_useStep_24 N N π1 σ2 pc (nn π) 0 = some (π3, σ3, (nn π : Int)) := u1
  rw [Pc_apply, grd_t h1, h2, grd_t (by decide)]
  iterate 22 rw [if_neg (by decide)]
  rw [if_pos rfl, Pc_useStep, Pc_useStep_3, grd_t o1, z 121, h3, s1, Option.bind_some, grd_t (ob_nO π 10 14), Pc_useStep_13, grd_t (h1.ext s2.1), grd_t s6.1, s2.2.1 128 pc (by omega), hu.1, ← hσ2, u1', Option.bind_some, Pc_apply_512]
  simp only
  rw [v1, Option.bind_some, grd_t u3.1, Pc_apply_516, w1, Option.bind_some, grd_t w2, Pc_apply_519]
end AP2
