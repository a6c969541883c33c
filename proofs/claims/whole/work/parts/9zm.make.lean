/-! both makers, from the beginning to the end -/
/-- definitions that may be used, by how many levels are left -/
def UDl (N : Nat) : Nat → Gl → Int → Stq → Prop
  | 0 => fun _ _ _ => True
  | x + 1 => UDo N (UDl N x) (11 - x)
theorem UDl.hU {N : Nat} {x : Nat} (hx : x ≤ 12) {ℓ : Int} (hl : ℓ = 12 - x) : ℓ < 12 → ∀ g vlo y, UDl N x g vlo y → UDo N (UDl N (x - 1)) ℓ g vlo y := by
  intro h g vlo y hy
  cases x with
  | zero => omega
  | succ x =>
    have e : ℓ = 11 - x := by omega
    rw [e]
    exact hy
theorem both_make {N : Nat} {π : Sh} {σ τ : St} {D vlo lo hi n o u v nn0 sw0 Kb : Int} {L : List Stq} {Kn : List Int} {k : Nat} (hN : 30000001 ≤ N) (hS : SHs π) (hD : DS (π, σ, τ, nn0, sw0, Kb) D 0 L Kn o) (hU : ∀ x ∈ L, x.1 = 99 → UDl N 12 (π, σ, τ, nn0, sw0, Kb) vlo x) (hT : TKS N (UDl N 12) 0 τ vlo lo hi 0 Kn 0 L u v k 0 0 [(1, n)] [] [o] [] []) (hu : 1 ≤ u ∧ u ≤ 20000) (hv : v ≤ 20000) (hk : k ≤ 100000) (hC : fl σ 87 3 = fl τ 64 0 ∧ 0 ≤ fl τ 64 0 ∧ fl τ 64 0 ≤ 200) (hf : fl σ 88 3 = 0 ∧ fl τ 11 0 = 0) (hn : nn0 = nn π - 2 * fl τ 64 0) (hs : sw0 = sw π - 7 * fl τ 64 0 - fl τ 61 0) (hK : Kb = fl τ 61 0 + 2 * (200 - fl τ 64 0) + 10 ∧ Kb ≤ 210000 ∧ 0 ≤ fl τ 61 0) (h48 : 0 ≤ fl τ 48 0 ∧ fl τ 48 0 + 200 ≤ 102900 + fl τ 64 0) : ∃ π' σ' τ' r p, Mk_make N π σ D = some (π', σ', r) ∧ r_makes N τ n = some (τ', p) ∧ AGR (π, σ, τ, nn0, sw0, Kb) π' σ' τ' r p := by
  have n56 := hS.1
  obtain ⟨σ1, hσ1⟩ : ∃ σ1, σ1 = se (se (se (sf σ 85 3 0) 6 0 D) 7 0 0) 8 0 0 := ⟨_, rfl⟩
  obtain ⟨τ0, hτ0⟩ : ∃ τ0, τ0 = sf (sf (sf τ 65 0 0) 68 0 0) 70 0 0 := ⟨_, rfl⟩
  have t65 : fl τ0 65 0 = 0 := by rw [hτ0, fl_sfn _ _ _ _ (by decide), fl_sfn _ _ _ _ (by decide), fl_sfs]
  have t68 : fl τ0 68 0 = 0 := by rw [hτ0, fl_sfn _ _ _ _ (by decide), fl_sfs]
  have t70 : fl τ0 70 0 = 0 := by rw [hτ0, fl_sfs]
  have tf : ∀ (f : Nat) i, f ≠ 65 → f ≠ 68 → f ≠ 70 → fl τ0 f i = fl τ f i := fun f i h1 h2 h3 => by rw [hτ0, fl_sfn _ _ _ _ h3, fl_sfn _ _ _ _ h2, fl_sfn _ _ _ _ h1]
  have te : ∀ a i : Int, el τ0 a i = el τ a i := fun a i => by rw [hτ0]; rfl
  have p65 : fl (pTs τ0 [(1, n)]) 65 0 = 1 := by rw [pTs_65, t65]; rfl
  have pf : ∀ (f : Nat) i, f ≠ 65 → f ≠ 68 → f ≠ 70 → fl (pTs τ0 [(1, n)]) f i = fl τ f i := fun f i h1 h2 h3 => by rw [pTs_fl _ _ _ h1, tf f i h1 h2 h3]
  have pe : ∀ a i : Int, a ≠ 55 → a ≠ 56 → el (pTs τ0 [(1, n)]) a i = el τ a i := fun a i h1 h2 => by rw [pTs_el _ _ _ (Or.inl ⟨h1, h2⟩), te]
  have sf1 : ∀ (f : Nat) i, ¬ (f = 85 ∧ i = 3) → fl σ1 f i = fl σ f i := fun f i h => by rw [hσ1, fl_se, fl_se, fl_se, fl_sf, if_neg h]
  have se1 : ∀ a i : Int, ¬ (6 ≤ a ∧ a ≤ 8) → el σ1 a i = el σ a i := fun a i h => by rw [hσ1, el_sen _ _ _ _ (by omega), el_sen _ _ _ _ (by omega), el_sen _ _ _ _ (by omega), el_sf]
  have oD := hD.1
  have oD' : ob π D 1 := oD
  have js : JS (π, σ, τ, nn0, sw0, Kb) π σ1 (pTs τ0 [(1, n)]) 0 0 0 := by
    refine ⟨⟨ext.rf _, fun f i hi hx => sf1 f i (by omega), fun a j ha hx => se1 a j (by omega)⟩, ⟨fun f i a1 a2 a3 a4 a5 a6 a7 a8 a9 a10 => pf f i a6 a7 a8, fun a j x y => pe a j (by omega) (by omega), TX.eq (pf 48 0 (by decide) (by decide) (by decide)) (pf 61 0 (by decide) (by decide) (by decide)) (fun a j x y => pe a j (by omega) (by omega))⟩, hS, ⟨by rw [hσ1, fl_se, fl_se, fl_se, fl_sfs], by rw [pTs_fl _ _ _ (by decide), t70], by omega, by omega⟩, ?_, ?_, fun h => absurd h (by omega), ?_, ?_, ?_, ?_, ?_⟩
    · rw [sf1 87 3 (by omega), pf 64 0 (by decide) (by decide) (by decide)]; exact hC
    · rw [sf1 88 3 (by omega), pf 11 0 (by decide) (by decide) (by decide)]; exact hf
    · rw [pf 64 0 (by decide) (by decide) (by decide)]; simp; omega
    · rw [pf 64 0 (by decide) (by decide) (by decide)]; simp only; omega
    · rw [pf 64 0 (by decide) (by decide) (by decide), pf 61 0 (by decide) (by decide) (by decide)]; simp only; omega
    · rw [pf 61 0 (by decide) (by decide) (by decide)]; exact hK.2.2
    · rw [pf 48 0 (by decide) (by decide) (by decide), pf 64 0 (by decide) (by decide) (by decide)]
      show 0 ≤ fl τ 48 0 ∧ fl τ 48 0 + 200 ≤ (fl τ 48 0 - fl τ 64 0 + 200) + fl τ 64 0 ∧ (fl τ 48 0 - fl τ 64 0 + 200) ≤ 102900
      omega
  have fm : FM π σ1 (pTs τ0 [(1, n)]) 0 D 0 0 0 := ⟨⟨by rw [hσ1, el_sen _ _ _ _ (by decide), el_sen _ _ _ _ (by decide), el_ses], by rw [hσ1, el_sen _ _ _ _ (by decide), el_ses], by rw [hσ1, el_ses]⟩, by omega, by omega, by rw [pf 64 0 (by decide) (by decide) (by decide)]; omega, fun i i0 i1 => by omega⟩
  have fin : FIN N (π, σ, τ, nn0, sw0, Kb) π σ1 (pTs τ0 [(1, n)]) 0 0 := by
    refine hT (π, σ, τ, nn0, sw0, Kb) π σ1 (pTs τ0 [(1, n)]) 0 0 D L Kn o 0 0 0 (fun _ _ _ _ _ _ => rfl) hD hU ⟨[], [], by simp, rfl⟩ (List.prefix_refl _) hK.2.1 js fm (by rw [p65]; rfl) (by have := pTs_sk (τ := τ0) [(1, n)]; rwa [t65] at this) (by rw [pTs_fl _ _ _ (by decide), t68]; rfl) trivial (fun x hx => absurd hx (by simp)) ⟨by omega, by omega⟩ ⟨by omega, by omega⟩ (by rw [pf 64 0 (by decide) (by decide) (by decide)]; omega) (by rw [pf 64 0 (by decide) (by decide) (by decide), pf 61 0 (by decide) (by decide) (by decide)]; simp only; omega) (fun π3 σ3 τ3 t3 s3 hO => ?_)
    obtain ⟨p1, p2, p3, p4, p5, p6, p7, p8, p9, p10⟩ := hO
    obtain ⟨m1, m2, m3, m6, m7, m8, m86, mt, mnn, msw, m61, m48⟩ := id p1
    rw [pf 64 0 (by decide) (by decide) (by decide)] at p8 p9 p10
    rw [pf 61 0 (by decide) (by decide) (by decide)] at p9
    simp only [List.length_cons, List.length_nil] at p5
    rw [Int.zero_add] at p3
    have e63 : el σ3 6 0 = D := by rw [(p2.2.2.1 0 (Int.le_refl _)).1]; exact fm.1.1
    have e73 : el σ3 7 0 = 0 := by rw [(p2.2.2.1 0 (Int.le_refl _)).2]; exact fm.1.2.1
    have ov : OVa π3 σ3 τ3 0 (0 + 0 + (0 + L.length)) Kn o (el τ3 54 0) := p6.1
    obtain ⟨r, v1, v2, v3⟩ := ov.vr (σ1 := σ3) (τ1 := τ3) (ℓ := 0) hD m1 m2 m6.1 e63 e73 ⟨by omega, by omega⟩ (HX.rf _ _) (fun _ _ => rfl) (TX.rf _)
    have op := c_operand (N := N) (show 0 ≤ fl σ3 85 3 ∧ fl σ3 85 3 < 13 by rw [m6.1]; omega) v1
    obtain ⟨q1, q2, q3, q4, q5, q6⟩ := id hD
    have hXg := m1.hx
    have ls : LSq π3 σ3 (fl σ 23 D) (SQ π3 σ3) L := q4.grow hXg (fun r e _ hr => hr.grow hXg)
    have e23 : fl σ3 23 D = fl σ 23 D := hXg.fd (in1 (by omega)) q1.2.1
    have e25 : fl σ3 25 D = o := (hXg.fd (in1 (by omega)) q1.2.1).trans q6
    have s3b : s3 ≤ 25000000 := by omega
    refine ⟨π3, σ3, sf τ3 68 0 0, r, el τ3 54 0, ?_, ?_, ?_⟩
    · rw [show N - t3 = N - (t3 + 1) + 1 by omega, Mk_make_28, grd_t (by exact ⟨by omega, by omega⟩), if_pos (by omega), m8.1, grd_t (by exact ⟨by omega, by omega⟩), if_pos rfl, m6.1, grd_t (by exact ⟨by omega, by omega⟩), bnd, bnd, e63, p3, grd_t (q1.ext hXg.1), e23, L_size, grd_t ls.1, Option.bind_some, grd_t ls.1, grd_t (by exact ⟨by omega, by have := ls.2.2.1; omega⟩)]
      simp only
      rw [ls.2.1, grd_t (by exact ⟨by omega, by have := ls.2.2.1; omega⟩), if_neg (by omega), e25, op, Option.bind_some]
      simp only
      rw [m6.1, grd_t (by exact ⟨by omega, by omega⟩), if_pos rfl]
    · rw [show N - s3 = N - (s3 + 1) + 1 by omega, r_makes_21, p4, grd_t (by decide), if_neg (by decide), r_makes_70, m8.2, grd_t (by decide), if_pos rfl, r_pop, p5, show (0 : Int) + ((0 + 1 : Nat) : Int) - 1 = 0 by omega, grd_t (by decide), Option.bind_some]
    · have tg : ∀ (f : Nat) i, f ≠ 68 → fl (sf τ3 68 0 0) f i = fl τ3 f i := fun f i h => fl_sfn _ _ _ _ h
      have tx : TX τ3 (sf τ3 68 0 0) := TX.eq (tg 48 0 (by decide)) (tg 61 0 (by decide)) (fun _ _ _ _ => rfl)
      unfold AGR
      rw [tg 64 0 (by decide), tg 11 0 (by decide), tg 61 0 (by decide), tg 48 0 (by decide)]
      refine ⟨m1, ⟨fun f i a1 a2 a3 a4 a5 a6 a7 a8 a9 a10 => by rw [tg f i a7]; exact m2.1 f i a1 a2 a3 a4 a5 a6 a7 a8 a9 a10, fun a i x y => m2.2.1 a i x y, m2.2.2.tr tx⟩, m3, m7, by rw [m8.1, m8.2], by simp only at mnn ⊢; omega, by simp only at msw ⊢; omega, Or.inl ⟨m8.2, v3, v2.grow (HX.rf _ _) tx, mnn, msw, m61, by simp only; omega, m48⟩⟩
  obtain ⟨π', σ', τ', r, p, h1, h2, h3⟩ := fin
  refine ⟨π', σ', τ', r, p, ?_, ?_, h3⟩
  · rw [Mk_make, grd_t (by decide), grd_t (Or.inr oD'), ← hσ1]
    exact h1
  · rw [r_makes, bnd, ← hτ0, r_task' (by rw [t65]; omega), Option.bind_some]
    exact h2
