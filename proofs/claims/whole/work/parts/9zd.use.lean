/-! a use of a definition: a level begins -/
section US
variable {N : Nat}
theorem r_use_lp {d Pd Q ℓ' T nb : Int} : ∀ (m n : Nat) (τ : St) (i : Int), m < n → Pd - i = m → 0 ≤ i → Pd ≤ 4 → (0 ≤ d ∧ d < 6000) → el τ 81 d = Pd → el τ 80 d = nb → fl τ 68 0 = Q → (0 ≤ Q ∧ Q + Pd ≤ 20000) → fl τ 70 0 = ℓ' → (0 ≤ ℓ' ∧ ℓ' ≤ 12) → fl τ 65 0 = T → (0 ≤ T ∧ T + 2 ≤ 20000) → ∃ τ', r_use_96 N n τ d i = some τ' ∧ fl τ' 65 0 = T + 2 ∧ SK τ' T [(1, nb), (23, -1)] ∧ (∀ (f : Nat) (x : Int), f ≠ 65 → fl τ' f x = fl τ f x) ∧ (∀ a x : Int, a ≠ 53 → (a ≠ 55 ∧ a ≠ 56) ∨ x < T → el τ' a x = el τ a x) ∧ ∀ x, el τ' 53 x = if 4 * ℓ' + i ≤ x ∧ x < 4 * ℓ' + Pd then el τ 54 (Q + (x - 4 * ℓ')) else el τ 53 x := by
  intro m
  induction m with
  | zero =>
    intro n τ i hn hp i0 hP hd h81 h80 h68 hQ h70 hl h65 hT
    cases n with
    | zero => omega
    | succ n =>
      refine ⟨pTs τ [(1, nb), (23, -1)], ?_, by rw [pTs_65, h65]; rfl, by have := pTs_sk (τ := τ) [(1, nb), (23, -1)]; rwa [h65] at this, fun f x hf => pTs_fl _ _ _ hf, fun a x _ hx => pTs_el _ _ _ (by omega), fun x => by rw [if_neg (by omega), pTs_el _ _ _ (Or.inl ⟨by decide, by decide⟩)]⟩
      have e2 : fl (pT τ (23, -1)) 65 0 = T + 1 := by rw [pT, fl_sfs, h65]
      have e3 : el (pT τ (23, -1)) 80 d = nb := by rw [pT, el_sf, el_sen _ _ _ _ (by decide), el_sen _ _ _ _ (by decide)]; exact h80
      rw [r_use_96, grd_t (by exact ⟨hd.1, hd.2⟩), grd_t (by exact ⟨by omega, by omega⟩), h81, grd_t (by exact ⟨by omega, by omega⟩), if_neg (by omega), r_task' (by omega), Option.bind_some, e3, r_task' (by omega), Option.bind_some]
      rfl
  | succ m ih =>
    intro n τ i hn hp i0 hP hd h81 h80 h68 hQ h70 hl h65 hT
    cases n with
    | zero => omega
    | succ n =>
      obtain ⟨τ', q1, q2, q3, q4, q5, q6⟩ := ih n (se τ 53 (4 * ℓ' + i) (el τ 54 (Q + i))) (i + 1) (by omega) (by omega) (by omega) hP hd (by rw [el_sen _ _ _ _ (by decide)]; exact h81) (by rw [el_sen _ _ _ _ (by decide)]; exact h80) h68 hQ h70 hl h65 hT
      refine ⟨τ', ?_, q2, q3, q4, fun a x h1 h2 => by rw [q5 a x h1 h2, el_sen _ _ _ _ h1], fun x => ?_⟩
      · rw [r_use_96, grd_t (by exact ⟨hd.1, hd.2⟩), grd_t (by exact ⟨by omega, by omega⟩), h81, grd_t (by exact ⟨by omega, by omega⟩), if_pos (by omega), h68, grd_t (by exact ⟨by omega, by omega⟩), h70, grd_t (by exact ⟨by omega, by omega⟩)]
        exact q1
      · rw [q6, el_sen _ _ _ _ (by decide), el_se]
        by_cases c : x = 4 * ℓ' + i
        · rw [if_neg (by omega), if_pos ⟨rfl, c⟩, if_pos (by omega), c, show 4 * ℓ' + i - 4 * ℓ' = i by omega]
        · rw [if_neg (show ¬ ((53 : Int) = 53 ∧ x = 4 * ℓ' + i) by omega)]
          by_cases c2 : 4 * ℓ' + (i + 1) ≤ x ∧ x < 4 * ℓ' + Pd
          · rw [if_pos c2, if_pos (by omega)]
          · rw [if_neg c2, if_neg (by omega)]
theorem r_use' {τ : St} {n d place Pd nb ℓ Q T : Int} (hN : 300000 ≤ N) (hn : 0 ≤ n ∧ n < 32768) (h92 : el τ 92 n = d) (h93 : el τ 93 n = place) (hd : 0 ≤ d ∧ d < 6000) (h81 : el τ 81 d = Pd) (hP : 1 ≤ Pd ∧ Pd ≤ 4) (h80 : el τ 80 d = nb) (h70 : fl τ 70 0 = ℓ) (hl : 0 ≤ ℓ ∧ ℓ ≤ 12) (h11 : fl τ 11 0 = 0) (h64 : 0 ≤ fl τ 64 0 ∧ fl τ 64 0 ≤ 200) (h68 : fl τ 68 0 = Q + Pd) (hQ : 0 ≤ Q ∧ Q + Pd ≤ 20000) (h65 : fl τ 65 0 = T) (hT : 0 ≤ T ∧ T + 2 ≤ 20000) :
    ∃ τ', r_use N τ n = some τ' ∧ ((ℓ = 12 ∨ fl τ 64 0 = 200) ∧ fl τ' 11 0 = (if ℓ = 12 then 10 else 5) ∧ fl τ' 12 0 = spt τ place ∧ fl τ' 64 0 = fl τ 64 0 ∧ (∀ (f : Nat) (x : Int), f ≠ 11 → f ≠ 12 → f ≠ 64 → fl τ' f x = fl τ f x) ∧ (∀ a x : Int, el τ' a x = el τ a x) ∨
      (ℓ < 12 ∧ fl τ 64 0 < 200) ∧ fl τ' 64 0 = fl τ 64 0 + 1 ∧ fl τ' 70 0 = ℓ + 1 ∧ fl τ' 71 0 = spt τ place ∧ fl τ' 68 0 = Q ∧ fl τ' 65 0 = T + 2 ∧ fl τ' 11 0 = 0 ∧ SK τ' T [(1, nb), (23, -1)] ∧ (∀ (f : Nat) (x : Int), f ≠ 11 → f ≠ 12 → f ≠ 64 → f ≠ 65 → f ≠ 68 → f ≠ 70 → f ≠ 71 → fl τ' f x = fl τ f x) ∧ (∀ a x : Int, a ≠ 53 → (a ≠ 55 ∧ a ≠ 56) ∨ x < T → el τ' a x = el τ a x) ∧ ∀ x, el τ' 53 x = if 4 * (ℓ + 1) ≤ x ∧ x < 4 * (ℓ + 1) + Pd then el τ 54 (Q + (x - 4 * (ℓ + 1))) else el τ 53 x) := by
  have sp : r_spot N τ place = some (τ, spt τ place) := r_spot' (by rw [h70]; exact ⟨by omega, by omega⟩)
  by_cases c12 : ℓ = 12
  · refine ⟨sf (sf τ 11 0 10) 12 0 (spt τ place), ?_, Or.inl ⟨Or.inl c12, by rw [if_pos c12, fl_sfn _ _ _ _ (by decide), fl_sfs], fl_sfs _ _ _ _, by rw [fl_sfn _ _ _ _ (by decide), fl_sfn _ _ _ _ (by decide)], fun f x h1 h2 _ => by rw [fl_sfn _ _ _ _ h2, fl_sfn _ _ _ _ h1], fun _ _ => rfl⟩⟩
    rw [r_use, grd_t (by exact ⟨hn.1, hn.2⟩), bnd, h70, grd_t (by exact ⟨by omega, by omega⟩), if_pos c12, h93, sp, Option.bind_some, r_fail0 h11, Option.bind_some]
  · obtain ⟨τc, c1, c2, c3, c4⟩ := r_counts_b (N := N) (place := place) (bs := 1) 0 1 N τ 0 (by omega) (by omega) (by omega) (by omega) (by rw [h70]; exact hl) h11 h64
    have un : ∀ X, (if fl τc 11 0 = 0 then (if ℓ = 0 then r_use_69 N (sf τc 71 0 place) d else r_use_69 N τc d) else some τc) = X → r_use N τ n = X := by
      intro X hX
      rw [← hX, r_use, grd_t (by exact ⟨hn.1, hn.2⟩), bnd, h70, grd_t (by exact ⟨by omega, by omega⟩), if_neg c12, h93, r_counts, c1, Option.bind_some, h92, c2 70 0 (by decide) (by decide) (by decide), h70, c3 93 n, h93, grd_t (by rcases c4 with c4 | c4 <;> rw [c4.2.2.1] <;> exact ⟨by decide, by decide⟩), grd_t (by exact ⟨by omega, by omega⟩)]
    rcases c4 with ⟨d1, d2, d3, d4⟩ | ⟨d1, d2, d3, d4⟩
    · rw [if_pos d3] at un
      obtain ⟨τ0, hτ0⟩ : ∃ τ0, τ0 = if ℓ = 0 then sf τc 71 0 place else τc := ⟨_, rfl⟩
      have g1 : ∀ (f : Nat) (x : Int), f ≠ 71 → fl τ0 f x = fl τc f x := fun f x hf => by
        rw [hτ0]; split
        · exact fl_sfn _ _ _ _ hf
        · rfl
      have g2 : ∀ a x : Int, el τ0 a x = el τ a x := fun a x => by
        rw [hτ0]; split
        · exact c3 a x
        · exact c3 a x
      have g71 : fl τ0 71 0 = spt τ place := by
        unfold spt
        rw [hτ0, h70]
        by_cases c0 : ℓ = 0
        · rw [if_pos c0, fl_sfs, if_neg (by omega)]
        · rw [if_neg c0, if_pos (by omega), c2 71 0 (by decide) (by decide) (by decide)]
      obtain ⟨τ', q1, q2, q3, q4, q5, q6⟩ := r_use_lp (N := N) (d := d) (Pd := Pd) (Q := Q) (ℓ' := ℓ + 1) (T := T) (nb := nb) Pd.toNat N (sf (sf τ0 70 0 (ℓ + 1)) 68 0 Q) 0 (by omega) (by omega) (by omega) hP.2 hd ((g2 _ _).trans h81) ((g2 _ _).trans h80) (fl_sfs _ _ _ _) hQ (by rw [fl_sfn _ _ _ _ (by decide), fl_sfs]) (by omega) (by rw [fl_sfn _ _ _ _ (by decide), fl_sfn _ _ _ _ (by decide), g1 65 0 (by decide), c2 65 0 (by decide) (by decide) (by decide), h65]) hT
      refine ⟨τ', un _ ?_, Or.inr ⟨⟨by omega, by omega⟩, by rw [q4 64 0 (by decide), fl_sfn _ _ _ _ (by decide), fl_sfn _ _ _ _ (by decide), g1 64 0 (by decide)]; omega, by rw [q4 70 0 (by decide), fl_sfn _ _ _ _ (by decide), fl_sfs], by rw [q4 71 0 (by decide), fl_sfn _ _ _ _ (by decide), fl_sfn _ _ _ _ (by decide), g71], by rw [q4 68 0 (by decide), fl_sfs], q2, by rw [q4 11 0 (by decide), fl_sfn _ _ _ _ (by decide), fl_sfn _ _ _ _ (by decide), g1 11 0 (by decide)]; exact d3, q3, fun f x h01 h02 h1 h2 h3 h4 h5 => ?_, fun a x h1 h2 => (q5 a x h1 h2).trans (g2 a x), fun x => ?_⟩⟩
      · have e70 : fl τ0 70 0 = ℓ := by rw [g1 70 0 (by decide), c2 70 0 (by decide) (by decide) (by decide), h70]
        have e68 : fl τ0 68 0 = Q + Pd := by rw [g1 68 0 (by decide), c2 68 0 (by decide) (by decide) (by decide), h68]
        have e81 : el τ0 81 d = Pd := (g2 _ _).trans h81
        have : (if ℓ = 0 then r_use_69 N (sf τc 71 0 place) d else r_use_69 N τc d) = r_use_69 N τ0 d := by rw [hτ0]; split <;> rfl
        rw [this, r_use_69, grd_t (by exact ⟨hd.1, hd.2⟩), e70, e68, e81, show Q + Pd - Pd = Q by omega]
        exact q1
      · rw [q4 f x h2, fl_sfn _ _ _ _ h3, fl_sfn _ _ _ _ h4, g1 f x h5, c2 f x h01 h02 h1]
      · rw [q6]
        simp only [el_sf, g2]
        rw [Int.add_zero]
    · rw [if_neg (by omega)] at un
      exact ⟨τc, un _ rfl, Or.inl ⟨Or.inr (by omega), by rw [if_neg c12]; exact d3, d4, by omega, c2, c3⟩⟩
end US
section US2
variable {N : Nat}
/-- the class lays the patterns of a use into registers -/
theorem c_begin_lp {g : Gl} {π : Sh} {σ τ σ1 : St} {st reg x3 place Dd ℓ D P base o' : Int} {L : List Stq} {Kn : List Int} {ops0 : List Kid} (hD : DS g D P L Kn o') (hC : FC g π σ) (hR : FRr g τ) (hX1 : HX π σ π σ1) (hs : USq π σ1 st place Dd ops0) (hr : 0 ≤ reg ∧ reg + 4 ≤ 512) (hb : 0 ≤ base) (h85 : fl σ1 85 3 = ℓ) (hl : 0 ≤ ℓ ∧ ℓ < 13) (e6 : el σ1 6 ℓ = D) (e7 : el σ1 7 ℓ = base) (h5 : ∀ i, i < reg → el σ1 5 i = el σ 5 i) :
    ∀ (ops ks : List Kid) (n : Nat) (σ2 : St) (i : Int), ops.length < n → (∀ (f : Nat) (x : Int), fl σ2 f x = fl σ1 f x) → (∀ a x : Int, a ≠ 5 → el σ2 a x = el σ1 a x) → (∀ x, x < reg → el σ2 5 x = el σ1 5 x) → At (fun i (k : Kid) => el σ1 (fl σ1 210 st) i = k.1) i ops → OV2 π σ τ base reg Kn ops ks → 0 ≤ i → i + ops.length = ops0.length → ∃ σ', Mk_begin_47 N π n σ2 st reg x3 i = Mk_begin_92 N π σ' st reg x3 ∧ (∀ (f : Nat) (x : Int), fl σ' f x = fl σ1 f x) ∧ (∀ a x : Int, a ≠ 5 → el σ' a x = el σ1 a x) ∧ (∀ x, x < reg + i → el σ' 5 x = el σ2 5 x) ∧ At (fun m (k : Kid) => ob π (el σ' 5 (reg + m)) 5 ∧ PRn π σ1 τ (el σ' 5 (reg + m)) k.1) i ks := by
  obtain ⟨s1, s2, s3, s4, s4', s5, s6, s7, s8, s9, s10, s11⟩ := id hs
  intro ops
  induction ops with
  | nil =>
    intro ks n σ2 i hn f2 e2 r2 hA hO i0 h1
    cases ks with
    | cons _ _ => exact hO.elim
    | nil =>
      cases n with
      | zero => omega
      | succ n =>
        simp only [List.length_nil] at h1
        refine ⟨σ2, ?_, f2, e2, fun _ _ => rfl, trivial⟩
        rw [Mk_begin_47, grd_t s1, grd_t (by exact ⟨by omega, by omega⟩), f2 209 st, s5, grd_t (by exact ⟨by omega, by omega⟩), if_neg (by omega)]
  | cons o ops ih =>
    intro ks n σ2 i hn f2 e2 r2 hA hO i0 h1
    cases ks with
    | nil => exact hO.elim
    | cons k ks =>
      cases n with
      | zero => omega
      | succ n =>
        simp only [List.length_cons] at h1 hn
        obtain ⟨⟨o1, o2⟩, hO'⟩ := hO
        have hX2 : HX π σ π σ2 := hX1.tr (HX.of ⟨fun f x _ => f2 f x, fun a x ha => e2 a x (by omega)⟩)
        obtain ⟨r, v1, v2, v3⟩ := o2.vr (σ1 := σ2) (τ1 := τ) (ℓ := ℓ) hD hC hR (by rw [f2]; exact h85) (by rw [e2 _ _ (by decide)]; exact e6) (by rw [e2 _ _ (by decide)]; exact e7) ⟨hb, by omega⟩ hX2 (fun x hx => (r2 x hx).trans (h5 x hx)) (TX.rf _)
        have op := c_operand (N := N) (show 0 ≤ fl σ2 85 3 ∧ fl σ2 85 3 < 13 by rw [f2, h85]; omega) v1
        obtain ⟨σ', q1, q2, q3, q4, q5⟩ := ih ks n (se σ2 5 (reg + i) r) (i + 1) (by omega) (fun f x => f2 f x) (fun a x ha => by rw [el_sen _ _ _ _ ha]; exact e2 a x ha) (fun x hx => by rw [el_se, if_neg (by omega)]; exact r2 x hx) hA.2 hO' (by omega) (by omega)
        have pr : PRn π σ1 τ r k.1 := v2.grow (HX.of ⟨fun f x _ => (f2 f x).symm, fun a x ha => (e2 a x (by omega)).symm⟩) (TX.rf _)
        refine ⟨σ', ?_, q2, q3, fun x hx => by rw [q4 x (by omega), el_se, if_neg (by omega)], ⟨?_, q5⟩⟩
        · have ln1 : ops0.length ≤ 4 := s6.2
          rw [Mk_begin_47, grd_t s1, grd_t (by exact ⟨by omega, by omega⟩), f2 209 st, s5, grd_t (by exact ⟨by omega, by omega⟩), if_pos (by omega), grd_t (by exact ⟨by omega, by omega⟩), if_pos (by omega), f2 210 st, grd_t s7, grd_t (by exact ⟨i0, by omega, by omega⟩), e2 _ _ (by omega), hA.1, op, Option.bind_some, grd_t (by exact ⟨by omega, by omega⟩)]
          simp only
          rw [grd_t (Or.inr v3)]
          exact q1
        · show ob π (el σ' 5 (reg + i)) 5 ∧ PRn π σ1 τ (el σ' 5 (reg + i)) k.1
          rw [q4 (reg + i) (by omega), el_ses]
          exact ⟨v3, pr⟩
end US2
