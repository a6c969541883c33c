/-! parts of a row are appended -/
theorem CHn.snoc {τ τ' : St} {lo hi x c : Int} (hc : ND lo hi c ∧ 0 ≤ el τ' 94 c ∧ el τ' 94 c < 100) (h85 : el τ' 85 c = -1) (hx : el τ' 85 x = c) : ∀ {cs : List Int} {c0 : Int}, CHn τ lo hi cs c0 → cs.Pairwise (fun a b => a < b) → cs.getLast? = some x → (∀ y ∈ cs, el τ' 94 y = el τ 94 y ∧ (y ≠ x → el τ' 85 y = el τ 85 y)) → CHn τ' lo hi (cs ++ [c]) c0
  | [], _, _, _, h, _ => absurd h (by simp)
  | [y], c0, h, _, hl, he => by
    have e : y = x := by simpa using hl
    obtain ⟨⟨h1, h2, h3⟩, h4⟩ := h
    have k := he y (by simp)
    refine ⟨⟨h1, h2, by rw [k.1]; exact h3⟩, ⟨by rw [e]; exact hx, hc⟩, h85⟩
  | y :: z :: zs, c0, h, hp, hl, he => by
    obtain ⟨⟨h1, h2, h3⟩, h4⟩ := h
    have k := he y (by simp)
    have hl' : (z :: zs).getLast? = some x := by rw [List.getLast?_cons_cons] at hl; exact hl
    have hm : x ∈ z :: zs := List.mem_of_getLast? hl'
    rw [List.pairwise_cons] at hp
    have ne : y ≠ x := by have := hp.1 x hm; omega
    refine ⟨⟨h1, h2, by rw [k.1]; exact h3⟩, ?_⟩
    rw [k.2 ne]
    exact CHn.snoc hc h85 hx h4 hp.2 hl' (fun w hw => he w (List.mem_cons_of_mem _ hw))
/-- the parts of the row of a node -/
def RK (N : Nat) (τ : St) (lo hi P j r : Int) (l : List Kdr) : Prop := KDs N τ lo hi P j l ∧ CHn τ lo hi (l.map qC) (el τ 87 r) ∧ l.Pairwise (fun x y => qH x ≤ qC y ∧ qC x < qC y) ∧ (l = [] ∨ ∃ x, l.getLast? = some x ∧ el τ 86 r = qC x)
theorem RK.nil {N : Nat} {τ : St} {lo hi P j r : Int} (h : el τ 87 r = -1) : RK N τ lo hi P j r [] := ⟨trivial, h, List.Pairwise.nil, Or.inl rfl⟩
theorem KDs.mem {N : Nat} {τ : St} {lo hi P : Int} : ∀ {l : List Kdr} {j : Int}, KDs N τ lo hi P j l → ∀ x ∈ l, (lo ≤ qL x ∧ qH x ≤ hi) ∧ (lo ≤ qC x ∧ qC x < hi) ∧ (0 ≤ el τ 94 (qC x) ∧ el τ 94 (qC x) < 100)
  | [], _, _, x, hx => absurd hx (by simp)
  | y :: ys, j, h, x, hx => by
    rcases List.mem_cons.1 hx with rfl | hx
    · exact ⟨h.1.2.2.2.2.1, h.1.1.2, h.1.2.1⟩
    · exact KDs.mem h.2 x hx
/-- while more is read -/
theorem RK.mv {N : Nat} {τ τ' : St} {lo hi P j r : Int} {l : List Kdr} (h : RK N τ lo hi P j r l) (h0 : 0 ≤ lo ∧ r < hi ∧ hi ≤ 32768) (hi' : Int) (hh : hi ≤ hi' ∧ hi' ≤ 32768) (ht : ∀ a i : Int, 85 ≤ a → a ≤ 94 → i < hi → el τ' a i = el τ a i) : RK N τ' lo hi' P j r l := by
  obtain ⟨h1, h2, h3, h4⟩ := h
  refine ⟨h1.cg ⟨h0.1, Int.le_refl _, hh.1, hh.2⟩ (fun x _ a i x1 x2 _ x4 _ _ => ht a i x1 x2 x4), ?_, h3, ?_⟩
  · rw [ht 87 r (by omega) (by omega) h0.2.1]
    exact CHn.mono (Int.le_refl _) hh.1 (h2.cg (fun a i x1 x2 _ x4 => ht a i x1 x2 x4))
  · rw [ht 86 r (by omega) (by omega) h0.2.1]; exact h4
/-- a part is appended -/
theorem RK.app {N : Nat} {τ : St} {lo hi hi1 P j r c : Int} {l : List Kdr} {x : Kdr} (h : RK N τ lo hi P j r l) (h0 : 0 ≤ r ∧ r < lo) (hc : hi ≤ c ∧ lo ≤ c ∧ c < hi1 ∧ hi1 ≤ 32768) (hx : KD1 N τ lo hi1 P (j + (sgs l).length) x) (hxc : qC x = c) (hxl : hi ≤ qL x) : RK N (apN τ r c) lo hi1 P j r (l ++ [x]) := by
  obtain ⟨h1, h2, h3, h4⟩ := h
  have mem := h1.mem
  have hx0 := hx
  obtain ⟨k1, k2, -⟩ := hx0
  rw [hxc] at k1 k2
  have pw : (l ++ [x]).Pairwise (fun x y => qH x ≤ qC y ∧ qC x < qC y) := by
    rw [List.pairwise_append]
    refine ⟨h3, List.pairwise_singleton _ _, fun a ha b hb => ?_⟩
    have e : b = x := by simpa using hb
    rw [e, hxc]
    have := mem a ha
    exact ⟨by omega, by omega⟩
  have lst : ∃ y, (l ++ [x]).getLast? = some y ∧ el (apN τ r c) 86 r = qC y := ⟨x, by simp, by
    unfold apN
    split
    · rw [el_sen _ _ _ _ (by decide), el_ses, hxc]
    · rw [el_sen _ _ _ _ (by decide), el_ses, hxc]⟩
  rcases h4 with h4 | ⟨z, z1, z2⟩
  · subst h4
    have e87 : el τ 87 r = -1 := h2
    have ap : ∀ a i : Int, lo ≤ i → ¬ (a = 85 ∧ i = c) → el (apN τ r c) a i = el τ a i := fun a i hi hx => by
      unfold apN
      rw [if_pos e87, el_se, if_neg (by omega), el_se, if_neg (by omega), el_se, if_neg (by omega)]
    have a87 : el (apN τ r c) 87 r = c := by unfold apN; rw [if_pos e87, el_sen _ _ _ _ (by decide), el_sen _ _ _ _ (by decide), el_ses]
    have a85 : el (apN τ r c) 85 c = -1 := by unfold apN; rw [if_pos e87, el_ses]
    refine ⟨⟨?_, trivial⟩, ?_, pw, Or.inr lst⟩
    · have := hx.cg (τ' := apN τ r c) (fun a i x1 x2 x3 x4 x5 x6 => ap a i x3 (by rw [hxc] at x5; exact x5)) ⟨by omega, Int.le_refl _, Int.le_refl _, hc.2.2.2⟩
      simpa [sgs] using this
    · show CHn _ _ _ [qC x] _
      rw [a87, hxc]
      exact ⟨⟨rfl, k1, by rw [ap 94 c (by omega) (by omega)]; exact k2⟩, a85⟩
  · have zm : z ∈ l := List.mem_of_getLast? z1
    have zb := mem z zm
    have ne : el τ 87 r ≠ -1 := by
      cases l with
      | nil => simp at z1
      | cons y ys =>
        have e := h2.1.1
        have := h2.1.2.1.1
        omega
    have ap : ∀ a i : Int, lo ≤ i → ¬ (a = 85 ∧ i = c) → ¬ (a = 85 ∧ i = qC z) → el (apN τ r c) a i = el τ a i := fun a i hi hx hx' => by
      unfold apN
      rw [if_neg ne, z2, el_se, if_neg (by omega), el_se, if_neg (by omega), el_se, if_neg (by omega)]
    have a87 : el (apN τ r c) 87 r = el τ 87 r := by
      unfold apN; rw [if_neg ne, z2, el_sen _ _ _ _ (by decide), el_sen _ _ _ _ (by decide), el_sen _ _ _ _ (by decide)]
    have a85 : el (apN τ r c) 85 c = -1 := by unfold apN; rw [if_neg ne, el_ses]
    have az : el (apN τ r c) 85 (qC z) = c := by
      unfold apN; rw [if_neg ne, z2, el_se, if_neg (by omega), el_sen _ _ _ _ (by decide), el_ses]
    refine ⟨?_, ?_, pw, Or.inr lst⟩
    · refine KDs.app ?_ ?_
      · refine h1.cg ⟨by omega, Int.le_refl _, by omega, hc.2.2.2⟩ (fun y hy a i x1 x2 x3 x4 x5 x6 => ap a i x3 (by omega) ?_)
        rintro ⟨rfl, rfl⟩
        -- the last one itself, or an earlier one
        by_cases c' : qC z = qC y
        · exact x5 ⟨rfl, c'⟩
        · refine x6 ⟨rfl, fun hh => ?_⟩
          obtain ⟨pre, hpre⟩ : ∃ pre, l = pre ++ [z] := ⟨l.dropLast, by
            have hne : l ≠ [] := by rintro rfl; simp at z1
            rw [List.getLast?_eq_some_getLast hne] at z1
            have z1' : l.getLast hne = z := by simpa using z1
            rw [← z1']; exact (List.dropLast_concat_getLast hne).symm⟩
          rw [hpre] at hy h3
          rcases List.mem_append.1 hy with q | q
          · rw [List.pairwise_append] at h3
            have := h3.2.2 y q z (by simp)
            omega
          · have : y = z := by simpa using q
            rw [this] at c'; exact c' rfl
      · exact hx.cg (fun a i x1 x2 x3 x4 x5 x6 => ap a i x3 (by rw [hxc] at x5; exact x5) (fun e => x6 ⟨e.1, by rw [e.2]; omega⟩)) ⟨by omega, Int.le_refl _, Int.le_refl _, hc.2.2.2⟩
    · rw [a87, List.map_append]
      show CHn _ _ _ (l.map qC ++ [qC x]) _
      rw [hxc]
      have pw' : (l.map qC).Pairwise (fun a b => a < b) := by
        rw [List.pairwise_map]
        exact h3.imp (fun h => h.2)
      refine CHn.snoc (τ := τ) (x := qC z) ⟨k1, by rw [ap 94 c (by omega) (by omega) (by omega)]; exact k2⟩ a85 az (CHn.mono (Int.le_refl _) (by omega) h2) pw' (by rw [List.getLast?_map, z1]; rfl) (fun y hy => ?_)
      obtain ⟨w, w1, w2⟩ := List.mem_map.1 hy
      have := mem w w1
      refine ⟨ap 94 y (by omega) (by omega) (by omega), fun hne => ap 85 y (by omega) (by omega) (by omega)⟩
