/-! a definition comes into the list of a reading -/
section TL9
variable {N : Nat}
theorem At.set {α : Type} {Q Q' : Int → α → Prop} {v : α} : ∀ (l : List α) (k : Nat) (a : Int), k < l.length → At Q a l → (∀ i e, a ≤ i → i < a + l.length → i ≠ a + k → Q i e → Q' i e) → Q' (a + k) v → At Q' a (l.set k v) := by
  intro l
  induction l with
  | nil => intro k a hk; simp at hk
  | cons y l ih =>
    intro k a hk hA hq hv
    have ll : ((y :: l).length : Int) = l.length + 1 := by simp
    cases k with
    | zero =>
      refine ⟨?_, hA.2.mono (fun i e i0 i1 _ h => hq i e (by omega) (by omega) (by omega) h)⟩
      rw [show a + ((0 : Nat) : Int) = a by omega] at hv
      exact hv
    | succ k =>
      refine ⟨hq a y (by omega) (by omega) (by omega) hA.1, ih k (a + 1) (by simpa using hk) hA.2 (fun i e i0 i1 i2 h => hq i e (by omega) (by omega) (by omega) h) ?_⟩
      rw [show a + 1 + (k : Int) = a + ((k + 1 : Nat) : Int) by omega]
      exact hv
theorem tl_lp {π : Sh} {σ τ : St} {D V : Int} {dl : List (Int × Int)} (hS : 56 ≤ nn π) (hL : LD π σ 43 (dl.map Prod.fst)) (h36 : fl τ 36 0 = dl.length) (h7 : dl.length < 700) (hA : At (fun i (e : Int × Int) => el τ 77 i = e.2) 0 dl) (hD : ob π D 1) (hV : 0 ≤ V ∧ V < 6000) (hn : RNm (fl σ 20 D) (el τ 83 V) (el τ 82 V)) (hR : ∀ e ∈ dl, RNm (fl σ 20 e.1) (el τ 83 e.2) (el τ 82 e.2) ∧ 0 ≤ e.2 ∧ e.2 < 6000) : ∀ (m n n' : Nat) (i : Int), 0 ≤ i → i ≤ dl.length → ((dl.length : Int) - i).toNat = m → m < n → m < n' → ∃ π' σ' τ' dl', Cs_takeLine_53 N n π σ D i = some (π', σ', 1) ∧ r_line_138 N n' τ V i = some τ' ∧ FLs 43 π σ π' σ' ∧ LD π' σ' 43 (dl'.map Prod.fst) ∧ fl τ' 36 0 = dl'.length ∧ At (fun i (e : Int × Int) => el τ' 77 i = e.2) 0 dl' ∧ (∀ e ∈ dl', e ∈ dl ∨ e = (D, V)) ∧ dl'.length ≤ dl.length + 1 ∧ nn π' ≤ nn π + 1 ∧ (sw π' : Int) + 4 * cpc π σ 43 ≤ sw π + 4 * cpc π' σ' 43 ∧ (∀ (f : Nat) (j : Int), f ≠ 36 → fl τ' f j = fl τ f j) ∧ ∀ a j : Int, a ≠ 77 → el τ' a j = el τ a j := by
  have lm : (dl.map Prod.fst).length = dl.length := List.length_map ..
  have o43 := hL.1
  have s43 : fl σ 2 43 = dl.length := by rw [hL.2.1, lm]
  obtain ⟨⟨-, k1⟩, k2, k3⟩ := hn.i
  intro m
  induction m with
  | zero =>
    intro n n' i h0 hi hm hn1 hn2
    obtain ⟨n, rfl⟩ : ∃ q, n = q + 1 := ⟨n - 1, by omega⟩
    obtain ⟨n', rfl⟩ : ∃ q, n' = q + 1 := ⟨n' - 1, by omega⟩
    have ei : i = dl.length := by omega
    obtain ⟨π', σ', p1, p2, p3, p4, p5⟩ := ld_add hL (by omega) hS hD
    refine ⟨π', σ', sf (se τ 77 i V) 36 0 (fl τ 36 0 + 1), dl ++ [(D, V)], ?_, ?_, p2, by rw [List.map_append]; exact p3, ?_, ?_, fun e he => ?_, by rw [List.length_append]; simp, p4, p5, fun f j hf => by rw [fl_sfn _ _ _ _ hf, fl_se], fun a j ha => by rw [el_sf, el_sen _ _ _ _ ha]⟩
    · rw [Cs_takeLine_53, L_size, grd_t o43, Option.bind_some, grd_t (by exact ⟨by omega, by omega⟩)]
      simp only
      rw [s43, grd_t (by exact ⟨by omega, by omega⟩), if_neg (by omega), p1, Option.bind_some]
      rfl
    · rw [r_line_138, grd_t (by exact ⟨by omega, by omega⟩), h36, grd_t (by exact ⟨by omega, by omega⟩), if_neg (by omega), r_line_194, grd_t (by exact ⟨by omega, by omega⟩), h36, grd_t (by exact ⟨by omega, by omega⟩), if_pos ei]
    · rw [fl_sfs, h36, List.length_append]; simp
    · refine At.snoc (hA.mono (fun j e j0 j1 _ hq => ?_)) ?_
      · rw [el_sf, el_se, if_neg (by omega)]; exact hq
      · show el (sf (se τ 77 i V) 36 0 (fl τ 36 0 + 1)) 77 (0 + dl.length) = V
        rw [el_sf, el_se, if_pos ⟨rfl, by omega⟩]
    · rcases List.mem_append.1 he with q | q
      · exact Or.inl q
      · exact Or.inr (List.mem_singleton.1 q)
  | succ m ih =>
    intro n n' i h0 hi hm hn1 hn2
    obtain ⟨n, rfl⟩ : ∃ q, n = q + 1 := ⟨n - 1, by omega⟩
    obtain ⟨n', rfl⟩ : ∃ q, n' = q + 1 := ⟨n' - 1, by omega⟩
    have il : i < dl.length := by omega
    obtain ⟨g1, g2, x, gx, g3, g4⟩ := hL.gt h0 (by rw [lm]; exact il)
    have hi' : i.toNat < dl.length := by omega
    obtain ⟨e, he⟩ : ∃ e, e = dl[i.toNat] := ⟨_, rfl⟩
    have em : e ∈ dl := by rw [he]; exact List.getElem_mem _
    have ex : x = e.1 := by
      rw [List.getElem?_map, List.getElem?_eq_getElem hi', ← he] at g4
      simpa using g4.symm
    have e77 : el τ 77 i = e.2 := by
      have := At.get i.toNat hA hi'
      rw [show (0 : Int) + (i.toNat : Nat) = i by omega, ← he] at this
      exact this
    have oe : ob π e.1 1 := by rw [← ex]; exact hL.2.2.2.2 x gx
    obtain ⟨r1, r2, r3⟩ := hR e em
    obtain ⟨⟨-, j1⟩, j2, j3⟩ := r1.i
    have eq := r1.eq hn
    have hC : Cs_takeLine_53 N (n + 1) π σ D i = if fl σ 20 e.1 = fl σ 20 D then Option.bind (L_set π σ 43 i D) (fun r32 => some (π, r32.1, 1)) else Cs_takeLine_53 N n π σ D (i + 1) := by
      rw [Cs_takeLine_53, L_size, grd_t o43, Option.bind_some, grd_t (by exact ⟨by omega, by omega⟩)]
      simp only
      rw [s43, grd_t (by exact ⟨by omega, by omega⟩), if_pos il, L_get, grd_t o43, grd_t (by exact ⟨by omega, by omega⟩), s43, grd_t (by exact ⟨by omega, by omega⟩), grd_t (by exact ⟨h0, il⟩), grd_t g1, grd_t (by exact ⟨h0, g2, by omega⟩), Option.bind_some]
      simp only
      rw [g3, ex, grd_t oe, grd_t hD, grd_t j1, grd_t k1]
    have hRr : r_line_138 N (n' + 1) τ V i = if el τ 83 e.2 = el τ 83 V then (if el τ 82 e.2 = el τ 82 V then r_line_194 N τ V i else r_line_138 N n' τ V (i + 1)) else r_line_138 N n' τ V (i + 1) := by
      rw [r_line_138, grd_t (by exact ⟨by omega, by omega⟩), h36, grd_t (by exact ⟨by omega, by omega⟩), if_pos il, grd_t (by exact ⟨by omega, by omega⟩), e77, grd_t (by exact ⟨r2, r3⟩), grd_t (by exact ⟨hV.1, hV.2⟩), grd_t j2, grd_t k2, grd_t j3, grd_t k3]
      rfl
    rw [hC, hRr]
    by_cases c : fl σ 20 e.1 = fl σ 20 D
    · obtain ⟨c1, c2⟩ := eq.1 c
      obtain ⟨σ', w, p1, p2, p3, p4, p5⟩ := ld_set hL h0 (by rw [lm]; exact il) hD
      refine ⟨π, σ', se τ 77 i V, dl.set i.toNat (D, V), ?_, ?_, p2, by rw [List.map_set]; exact p3, ?_, ?_, fun e' he' => ?_, by rw [List.length_set]; omega, by omega, by rw [p4]; exact Int.le_refl _, fun f j hf => by rw [fl_se], fun a j ha => by rw [el_sen _ _ _ _ ha]⟩
      · rw [if_pos c, p1, Option.bind_some]
      · rw [if_pos c1, if_pos c2, r_line_194, grd_t (by exact ⟨by omega, by omega⟩), h36, grd_t (by exact ⟨by omega, by omega⟩), if_neg (by omega)]
      · rw [fl_se, List.length_set]; exact h36
      · refine At.set dl i.toNat 0 hi' hA (fun j e' j0 j1 j2' hq => ?_) ?_
        · rw [el_se, if_neg (by omega)]; exact hq
        · rw [show (0 : Int) + (i.toNat : Nat) = i by omega, el_ses]
      · rcases List.mem_or_eq_of_mem_set he' with q | q
        · exact Or.inl q
        · exact Or.inr q
    · rw [if_neg c]
      have hRn : (if el τ 83 e.2 = el τ 83 V then (if el τ 82 e.2 = el τ 82 V then r_line_194 N τ V i else r_line_138 N n' τ V (i + 1)) else r_line_138 N n' τ V (i + 1)) = r_line_138 N n' τ V (i + 1) := by
        by_cases c1 : el τ 83 e.2 = el τ 83 V
        · rw [if_pos c1, if_neg (fun c2 => c (eq.2 ⟨c1, c2⟩))]
        · rw [if_neg c1]
      rw [hRn]
      exact ih n n' (i + 1) (by omega) (by omega) (by omega) (by omega) (by omega)
end TL9
