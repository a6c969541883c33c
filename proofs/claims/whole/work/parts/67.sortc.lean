/-! the class's sorting of events -/
abbrev AK (σ : St) (r : Int) : Int → List Int → Prop := At (fun j x => el σ r j = x)
theorem AK.of {σ σ' : St} {r r' : Int} {l : List Int} {a : Int} (h : ∀ j, a ≤ j → j < a + l.length → el σ' r' j = el σ r j) (k : AK σ r a l) : AK σ' r' a l := k.mono (fun i e a1 a2 _ h1 => (h i a1 a2).trans h1)
/-- an array of keys -/
def KA (π : Sh) (r : Int) : Prop := ob π r 23 ∧ ln π r = 1024
theorem KA.ina {π : Sh} {r i : Int} (h : KA π r) (h0 : 0 ≤ i) (h1 : i < 1024) : ina π r i := ⟨h0, by rw [h.2]; exact h1, by omega⟩
section SO
variable {N : Nat} {π : Sh}
theorem c_runEnd_lp {many : Int} (h2 : many ≤ 1024) : ∀ (l : List Int) (n : Nat) (σ : St) (i a : Int), l.length < n → KA π (fl σ 52 10) → AK σ (fl σ 52 10) i l → el σ (fl σ 52 10) (i - 1) = a → i64 a → (∀ k ∈ l, i64 k) → 1 ≤ i → i + l.length = many → Es_runEnd_4 N π n σ many i = some (σ, i + (runL a l).1.length)
  | [], n + 1, σ, i, a, _, hK, _, _, _, _, h0, h1 => by
    simp only [List.length_nil] at h1
    rw [Es_runEnd_4, grd_t (by exact ⟨by omega, by omega⟩), grd_t (by exact ⟨by omega, by omega⟩), if_neg (by omega), Es_runEnd_33, grd_t (by exact ⟨by omega, by omega⟩), grd_t (by exact ⟨by omega, by omega⟩)]
    have : min i many = i + ((runL a []).1.length : Int) := by simp only [runL, List.length_nil]; omega
    rw [this]
  | b :: l, n + 1, σ, i, a, hn, hK, hl, ha, h64, hb, h0, h1 => by
    simp only [List.length_cons] at h1 hn
    have e1 : el σ (fl σ 52 10) i = b := hl.1
    have b1 := hb b (by simp)
    rw [Es_runEnd_4, grd_t (by exact ⟨by omega, by omega⟩), grd_t (by exact ⟨by omega, by omega⟩), if_pos (by omega), grd_t hK.1, grd_t (hK.ina (by omega) (by omega)), grd_t (hK.ina (by omega) (by omega)), ha, e1, grd_t h64, grd_t b1]
    by_cases c : a < b
    · rw [if_pos c, c_runEnd_lp h2 l n σ (i + 1) b (by omega) hK hl.2 (by rw [show i + 1 - 1 = i by omega]; exact e1) b1 (fun k hk => hb k (by simp [hk])) (by omega) (by omega)]
      rw [runL, if_pos c]
      simp only [List.length_cons]
      rw [show i + 1 + ((runL b l).1.length : Int) = i + (((runL b l).1.length + 1 : Nat) : Int) by omega]
    · rw [if_neg c, Es_runEnd_33, grd_t (by exact ⟨by omega, by omega⟩), grd_t (by exact ⟨by omega, by omega⟩), runL, if_neg c]
      simp only [List.length_nil]
      rw [show min i many = i + ((0 : Nat) : Int) by omega]
theorem c_runEnd {many : Int} (hN : 1025 ≤ N) (h2 : many ≤ 1024) {l : List Int} {σ : St} {i a : Int} (hK : KA π (fl σ 52 10)) (hl : AK σ (fl σ 52 10) i (a :: l)) (hb : ∀ k ∈ a :: l, i64 k) (h0 : 0 ≤ i) (h1 : i + (l.length + 1) = many) : Es_runEnd N π σ i many = some (σ, i + ((a :: (runL a l).1).length : Int)) := by
  rw [Es_runEnd, bnd, c_runEnd_lp h2 l N σ (i + 1) a (by omega) hK hl.2 (by rw [show i + 1 - 1 = i by omega]; exact hl.1) (hb a (by simp)) (fun k hk => hb k (by simp [hk])) (by omega) (by omega)]
  simp only [List.length_cons]
  rw [show i + 1 + ((runL a l).1.length : Int) = i + (((runL a l).1.length + 1 : Nat) : Int) by omega]
theorem c_runEnd_e {many : Int} (hN : 1025 ≤ N) (h2 : many ≤ 1024) {σ : St} (h0 : 0 ≤ many) : Es_runEnd N π σ many many = some (σ, many) := by
  rw [Es_runEnd, bnd]
  cases N with
  | zero => omega
  | succ n =>
    rw [Es_runEnd_4, grd_t (by exact ⟨by omega, by omega⟩), grd_t (by exact ⟨by omega, by omega⟩), if_neg (by omega), Es_runEnd_33, grd_t (by exact ⟨by omega, by omega⟩), grd_t (by exact ⟨by omega, by omega⟩), show min (many + 1) many = many by omega]
theorem c_mergeRuns_lp {middle high : Int} (h2 : high ≤ 1024) : ∀ (n : Nat) (A B : List Int) (σ : St) (left right to : Int), A.length + B.length < n → KA π (fl σ 52 10) → KA π (fl σ 53 10) → fl σ 52 10 ≠ fl σ 53 10 → AK σ (fl σ 52 10) left A → AK σ (fl σ 52 10) right B → (∀ k ∈ A, i64 k) → (∀ k ∈ B, i64 k) → 0 ≤ left → left + A.length = middle → middle ≤ right → right + B.length = high → 0 ≤ to → to + (A.length + B.length) = high → ∃ σ', Es_mergeRuns_9 N π n σ middle high left right to = some σ' ∧ (∀ f i, fl σ' f i = fl σ f i) ∧ (∀ a j, a ≠ fl σ 53 10 ∨ j < to → el σ' a j = el σ a j) ∧ AK σ' (fl σ 53 10) to (mgL A B) := by
  intro n
  induction n with
  | zero => intro A B σ left right to h; omega
  | succ n ih =>
    intro A B σ left right to hn hK hS hne hA hB bA bB l0 l1 l2 l3 t0 t1
    -- the two steps
    have takeA : ∀ (x : Int) (A' : List Int), A = x :: A' → (∃ σ', Es_mergeRuns_45 N π (Es_mergeRuns_9 N π n) σ middle high left right to = some σ' ∧ (∀ f i, fl σ' f i = fl σ f i) ∧ (∀ a j, a ≠ fl σ 53 10 ∨ j < to → el σ' a j = el σ a j) ∧ AK σ' (fl σ 53 10) to (x :: mgL A' B)) := by
      intro x A' hx
      subst hx
      simp only [List.length_cons] at hn l1 t1
      have e1 : el σ (fl σ 52 10) left = x := hA.1
      obtain ⟨σ2, q1, q2, q3, q4⟩ := ih A' B (se σ (fl σ 53 10) to x) (left + 1) right (to + 1) (by omega) hK hS hne (AK.of (fun j j1 j2 => el_sen _ _ _ _ hne) hA.2) (AK.of (fun j j1 j2 => el_sen _ _ _ _ hne) hB) (fun k hk => bA k (by simp [hk])) bB (by omega) (by omega) l2 l3 (by omega) (by omega)
      refine ⟨σ2, ?_, q2, fun a j h => ?_, ?_, q4⟩
      · rw [Es_mergeRuns_45, grd_t hK.1, grd_t (hK.ina (by omega) (by omega)), grd_t hS.1, grd_t (hS.ina (by omega) (by omega)), e1]
        exact q1
      · rw [q3 a j (h.imp id (fun k => by omega)), el_se, if_neg (fun k => h.elim (fun h => h k.1) (fun h => by have := k.2; omega))]
      · have : el σ2 (fl σ 53 10) to = el (se σ (fl σ 53 10) to x) (fl σ 53 10) to := q3 _ _ (Or.inr (by omega))
        exact this.trans (el_ses _ _ _ _)
    have takeB : ∀ (y : Int) (B' : List Int), B = y :: B' → (∃ σ', Es_mergeRuns_65 N π (Es_mergeRuns_9 N π n) σ middle high left right to = some σ' ∧ (∀ f i, fl σ' f i = fl σ f i) ∧ (∀ a j, a ≠ fl σ 53 10 ∨ j < to → el σ' a j = el σ a j) ∧ AK σ' (fl σ 53 10) to (y :: mgL A B')) := by
      intro x B' hx
      subst hx
      simp only [List.length_cons] at hn l3 t1
      have e1 : el σ (fl σ 52 10) right = x := hB.1
      obtain ⟨σ2, q1, q2, q3, q4⟩ := ih A B' (se σ (fl σ 53 10) to x) left (right + 1) (to + 1) (by omega) hK hS hne (AK.of (fun j j1 j2 => el_sen _ _ _ _ hne) hA) (AK.of (fun j j1 j2 => el_sen _ _ _ _ hne) hB.2) bA (fun k hk => bB k (by simp [hk])) l0 l1 (by omega) (by omega) (by omega) (by omega)
      refine ⟨σ2, ?_, q2, fun a j h => ?_, ?_, q4⟩
      · rw [Es_mergeRuns_65, grd_t hK.1, grd_t (hK.ina (by omega) (by omega)), grd_t hS.1, grd_t (hS.ina (by omega) (by omega)), e1]
        exact q1
      · rw [q3 a j (h.imp id (fun k => by omega)), el_se, if_neg (fun k => h.elim (fun h => h k.1) (fun h => by have := k.2; omega))]
      · have : el σ2 (fl σ 53 10) to = el (se σ (fl σ 53 10) to x) (fl σ 53 10) to := q3 _ _ (Or.inr (by omega))
        exact this.trans (el_ses _ _ _ _)
    match A, B with
    | [], [] =>
      simp only [List.length_nil] at t1 l1 l3
      refine ⟨σ, ?_, fun _ _ => rfl, fun _ _ _ => rfl, by unfold mgL; simp [At]⟩
      rw [Es_mergeRuns_9, grd_t (by exact ⟨by omega, by omega⟩), grd_t (by exact ⟨by omega, by omega⟩), if_neg (by omega)]
    | x :: A', [] =>
      obtain ⟨σ', q1, q2, q3, q4⟩ := takeA x A' rfl
      simp only [List.length_cons, List.length_nil] at t1 l1 l3 hn
      refine ⟨σ', ?_, q2, q3, ?_⟩
      · rw [Es_mergeRuns_9, grd_t (by exact ⟨by omega, by omega⟩), grd_t (by exact ⟨by omega, by omega⟩), if_pos (by omega), grd_t (by exact ⟨by omega, by omega⟩), if_neg (by omega)]
        exact q1
      · have : mgL (x :: A') [] = x :: mgL A' [] := by unfold mgL; rw [List.merge_right, List.merge_right]
        rw [this]; exact q4
    | [], y :: B' =>
      obtain ⟨σ', q1, q2, q3, q4⟩ := takeB y B' rfl
      simp only [List.length_cons, List.length_nil] at t1 l1 l3 hn
      refine ⟨σ', ?_, q2, q3, ?_⟩
      · rw [Es_mergeRuns_9, grd_t (by exact ⟨by omega, by omega⟩), grd_t (by exact ⟨by omega, by omega⟩), if_pos (by omega), grd_t (by exact ⟨by omega, by omega⟩), if_pos (by omega), grd_t (by exact ⟨by omega, by omega⟩), grd_t (by exact ⟨by omega, by omega⟩), if_neg (by omega)]
        exact q1
      · have : mgL [] (y :: B') = y :: mgL [] B' := by unfold mgL; rw [List.nil_merge, List.nil_merge]
        rw [this]; exact q4
    | x :: A', y :: B' =>
      simp only [List.length_cons] at t1 l1 l3 hn
      have e1 : el σ (fl σ 52 10) left = x := hA.1
      have e2 : el σ (fl σ 52 10) right = y := hB.1
      have step : Es_mergeRuns_9 N π (n + 1) σ middle high left right to = if x < y then Es_mergeRuns_45 N π (Es_mergeRuns_9 N π n) σ middle high left right to else Es_mergeRuns_65 N π (Es_mergeRuns_9 N π n) σ middle high left right to := by
        rw [Es_mergeRuns_9, grd_t (by exact ⟨by omega, by omega⟩), grd_t (by exact ⟨by omega, by omega⟩), if_pos (by omega), grd_t (by exact ⟨by omega, by omega⟩), if_pos (by omega), grd_t (by exact ⟨by omega, by omega⟩), grd_t (by exact ⟨by omega, by omega⟩), if_pos (by omega), grd_t hK.1, grd_t (hK.ina (by omega) (by omega)), grd_t (hK.ina (by omega) (by omega)), e1, e2, grd_t (bA x (by simp)), grd_t (bB y (by simp))]
      have mg : mgL (x :: A') (y :: B') = if x < y then x :: mgL A' (y :: B') else y :: mgL (x :: A') B' := by
        unfold mgL
        rw [List.merge]
        by_cases c : x < y
        · rw [if_pos (decide_eq_true c), if_pos c]
        · rw [if_neg (by rw [decide_eq_true_iff]; exact c), if_neg c]
      by_cases c : x < y
      · obtain ⟨σ', q1, q2, q3, q4⟩ := takeA x A' rfl
        exact ⟨σ', by rw [step, if_pos c]; exact q1, q2, q3, by rw [mg, if_pos c]; exact q4⟩
      · obtain ⟨σ', q1, q2, q3, q4⟩ := takeB y B' rfl
        exact ⟨σ', by rw [step, if_neg c]; exact q1, q2, q3, by rw [mg, if_neg c]; exact q4⟩
theorem c_mergePass_lp {many : Int} (hN : 1025 ≤ N) (h2 : many ≤ 1024) : ∀ (n : Nat) (l : List Int) (σ : St) (low idx : Int), l.length < n → KA π (fl σ 52 10) → KA π (fl σ 53 10) → fl σ 52 10 ≠ fl σ 53 10 → AK σ (fl σ 52 10) low l → (∀ k ∈ l, i64 k) → 0 ≤ idx → idx ≤ low → low + l.length = many → (0 < low ∨ desL l ≠ 0) → ∃ σ', Es_mergePass_4 N π n σ many low idx = some (σ', 0) ∧ (∀ f i, f ≠ 52 → f ≠ 53 → fl σ' f i = fl σ f i) ∧ fl σ' 52 10 = fl σ 53 10 ∧ fl σ' 53 10 = fl σ 52 10 ∧ (∀ a j, a ≠ fl σ 53 10 ∨ j < low → el σ' a j = el σ a j) ∧ AK σ' (fl σ 53 10) low (pasL n l) := by
  intro n
  induction n with
  | zero => intro l σ low idx h; omega
  | succ n ih =>
    intro l σ low idx hn hK hS hne hl hb i0 i1 l1 hd
    have fin : ∀ σ1 : St, Es_mergePass_61 N π σ1 = some ((sf (sf σ1 53 10 (fl σ1 52 10)) 52 10 (fl σ1 53 10)), 0) := fun _ => rfl
    match l with
    | [] =>
      simp only [List.length_nil] at l1
      refine ⟨sf (sf σ 53 10 (fl σ 52 10)) 52 10 (fl σ 53 10), ?_, fun f i a b => by rw [fl_sfn _ _ _ _ a, fl_sfn _ _ _ _ b], fl_sfs _ _ _ _, by rw [fl_sfn _ _ _ _ (by decide), fl_sfs], fun _ _ _ => rfl, trivial⟩
      rw [Es_mergePass_4, grd_t (by exact ⟨by omega, by omega⟩), grd_t (by exact ⟨by omega, by omega⟩)]
      by_cases c : idx < many
      · rw [if_pos c, grd_t (by exact ⟨by omega, by omega⟩), if_neg (by omega)]; rfl
      · rw [if_neg c]; rfl
    | a :: l =>
      simp only [List.length_cons] at l1 hn
      have r1 := c_runEnd (N := N) (π := π) hN h2 hK hl hb (by omega) (by omega)
      have ea := runL_app a l
      have dr := desL_run a l
      have la := runL_len a l
      have hm1 : low + ((a :: (runL a l).1).length : Int) = many → (runL a l).2 = [] := by
        intro h
        simp only [List.length_cons] at h
        exact List.length_eq_zero_iff.1 (by omega)
      -- what follows the test of the first run
      have go : Es_mergePass_4 N π (n + 1) σ many low idx = Es_mergePass_34 N π (Es_mergePass_4 N π n) σ many low idx (low + ((a :: (runL a l).1).length : Int)) := by
        rw [Es_mergePass_4, grd_t (by exact ⟨by omega, by omega⟩), grd_t (by exact ⟨by omega, by omega⟩), if_pos (by omega), grd_t (by exact ⟨by omega, by omega⟩), if_pos (by omega), r1, Option.bind_some]
        by_cases c : low = 0
        · rw [if_pos c, grd_t (by simp only [List.length_cons]; exact ⟨by omega, by omega⟩)]
          rw [if_neg (fun h => ?_)]
          have := hm1 h
          rw [this] at dr
          rcases hd with hd | hd
          · omega
          · exact hd dr
        · rw [if_neg c]
      have al : AK σ (fl σ 52 10) low ((a :: (runL a l).1) ++ (runL a l).2) := by rw [List.cons_append, ea]; exact hl
      have bl : ∀ k ∈ (a :: (runL a l).1) ++ (runL a l).2, i64 k := by rw [List.cons_append, ea]; exact hb
      cases hr : (runL a l).2 with
      | nil =>
        rw [hr] at la al bl
        simp only [List.length_nil] at la
        have hm : low + ((a :: (runL a l).1).length : Int) = many := by simp only [List.length_cons]; omega
        rw [hm] at go
        obtain ⟨σ1, q1, q2, q3, q4⟩ := c_mergeRuns_lp (N := N) (π := π) (middle := many) (high := many) h2 N (a :: (runL a l).1) [] σ low many low (by simp only [List.length_cons, List.length_nil]; omega) hK hS hne al.l trivial (fun k hk => bl k (List.mem_append_left _ hk)) (by simp) (by omega) hm (Int.le_refl _) (by simp) (by omega) (by simpa using hm)
        have k1 : fl σ1 52 10 = fl σ 52 10 := q2 _ _
        have k2 : fl σ1 53 10 = fl σ 53 10 := q2 _ _
        have pl : pasL (n + 1) (a :: l) = a :: (runL a l).1 := by rw [pasL, hr]
        have q4' : AK σ1 (fl σ 53 10) low (a :: (runL a l).1) := by
          have : mgL (a :: (runL a l).1) [] = a :: (runL a l).1 := by unfold mgL; rw [List.merge_right]
          rw [this] at q4; exact q4
        -- then the end
        obtain ⟨σ2, z1, z2, z3, z4, z5, z6⟩ := ih [] σ1 many (idx + 1) (by simp; omega) (by rw [k1]; exact hK) (by rw [k2]; exact hS) (by rw [k1, k2]; exact hne) trivial (by simp) (by omega) (by omega) (by simp) (Or.inl (by omega))
        refine ⟨σ2, ?_, fun f i a b => (z2 f i a b).trans (q2 f i), z3.trans k2, z4.trans k1, fun a' j h => ?_, ?_⟩
        · rw [go, Es_mergePass_34, c_runEnd_e hN h2 (by omega), Option.bind_some, Es_mergeRuns, q1, Option.bind_some]
          exact z1
        · rw [z5 a' j (by rw [k2]; exact h.imp id (fun k => by omega)), q3 a' j h]
        · rw [pl]
          refine AK.of (fun j j1 j2 => z5 _ j (Or.inr (by rw [← hm]; exact j2))) q4'
      | cons b m =>
        rw [hr] at la al bl
        simp only [List.length_cons] at la
        have aB : AK σ (fl σ 52 10) (low + ((a :: (runL a l).1).length : Int)) (b :: m) := al.rt
        have bB : ∀ k ∈ b :: m, i64 k := fun k hk => bl k (List.mem_append_right _ hk)
        have r2 := c_runEnd (N := N) (π := π) hN h2 hK aB bB (by omega) (by simp only [List.length_cons]; omega)
        have eb := runL_app b m
        have lb := runL_len b m
        have aB2 : AK σ (fl σ 52 10) (low + ((a :: (runL a l).1).length : Int)) ((b :: (runL b m).1) ++ (runL b m).2) := by rw [List.cons_append, eb]; exact aB
        have bB2 : ∀ k ∈ (b :: (runL b m).1) ++ (runL b m).2, i64 k := by rw [List.cons_append, eb]; exact bB
        obtain ⟨σ1, q1, q2, q3, q4⟩ := c_mergeRuns_lp (N := N) (π := π) (middle := low + ((a :: (runL a l).1).length : Int)) (high := low + ((a :: (runL a l).1).length : Int) + ((b :: (runL b m).1).length : Int)) (by simp only [List.length_cons]; omega) N (a :: (runL a l).1) (b :: (runL b m).1) σ low (low + ((a :: (runL a l).1).length : Int)) low (by simp only [List.length_cons]; omega) hK hS hne al.l aB2.l (fun k hk => bl k (List.mem_append_left _ hk)) (fun k hk => bB2 k (List.mem_append_left _ hk)) (by omega) rfl (Int.le_refl _) rfl (by omega) (by simp only [List.length_cons]; omega)
        have k1 : fl σ1 52 10 = fl σ 52 10 := q2 _ _
        have k2 : fl σ1 53 10 = fl σ 53 10 := q2 _ _
        have pl : pasL (n + 1) (a :: l) = mgL (a :: (runL a l).1) (b :: (runL b m).1) ++ pasL n (runL b m).2 := by rw [pasL, hr]
        have ml := mgL_len (a :: (runL a l).1) (b :: (runL b m).1)
        simp only [List.length_cons] at ml
        obtain ⟨σ2, z1, z2, z3, z4, z5, z6⟩ := ih (runL b m).2 σ1 (low + ((a :: (runL a l).1).length : Int) + ((b :: (runL b m).1).length : Int)) (idx + 1) (by omega) (by rw [k1]; exact hK) (by rw [k2]; exact hS) (by rw [k1, k2]; exact hne) (by rw [k1]; exact AK.of (fun j j1 j2 => q3 _ j (Or.inl hne)) aB2.rt) (fun k hk => bB2 k (List.mem_append_right _ hk)) (by omega) (by simp only [List.length_cons]; omega) (by simp only [List.length_cons]; omega) (Or.inl (by simp only [List.length_cons]; omega))
        refine ⟨σ2, ?_, fun f i a b => (z2 f i a b).trans (q2 f i), z3.trans k2, z4.trans k1, fun a' j h => ?_, ?_⟩
        · rw [go, Es_mergePass_34, r2, Option.bind_some, Es_mergeRuns, q1, Option.bind_some]
          exact z1
        · rw [z5 a' j (by rw [k2]; exact h.imp id (fun k => by omega)), q3 a' j h]
        · rw [pl]
          rw [k2] at z6
          refine At.app (AK.of (fun j j1 j2 => z5 _ j (Or.inr (by simp only [List.length_cons]; omega))) q4) ?_
          rw [show low + ((mgL (a :: (runL a l).1) (b :: (runL b m).1)).length : Int) = low + ((a :: (runL a l).1).length : Int) + ((b :: (runL b m).1).length : Int) by simp only [List.length_cons]; omega]
          exact z6
theorem c_mergePass_t {many : Int} (hN : 1025 ≤ N) (h2 : many ≤ 1024) {l : List Int} {σ : St} (hK : KA π (fl σ 52 10)) (hl : AK σ (fl σ 52 10) 0 l) (hb : ∀ k ∈ l, i64 k) (h1 : (l.length : Int) = many) (h0 : 0 < many) (hd : desL l = 0) : Es_mergePass N π σ many = some (σ, 1) := by
  match l with
  | [] => simp at h1; omega
  | a :: l =>
    simp only [List.length_cons] at h1
    have r1 := c_runEnd (N := N) (π := π) hN h2 hK hl hb (by omega) (by omega)
    have dr := desL_run a l
    have la := runL_len a l
    have hr : (runL a l).2 = [] := by
      cases hr : (runL a l).2 with
      | nil => rfl
      | cons b m => rw [hr] at dr; simp only at dr; omega
    rw [hr] at la
    simp only [List.length_nil] at la
    rw [Es_mergePass]
    cases N with
    | zero => omega
    | succ n =>
      rw [Es_mergePass_4, grd_t (by exact ⟨by omega, by omega⟩), grd_t (by exact ⟨by omega, by omega⟩), if_pos (by omega), grd_t (by exact ⟨by omega, by omega⟩), if_pos (by omega), r1, Option.bind_some, if_pos rfl]
      have : (0 : Int) + ((a :: (runL a l).1).length : Int) = many := by simp only [List.length_cons]; omega
      rw [this, grd_t (by exact ⟨by omega, by omega⟩), if_pos rfl]
/-- the keys of both arrays -/
theorem KY.ka {σ : St} (hS : SHs π) (h : KY σ) : KA π (fl σ 52 10) ∧ KA π (fl σ 53 10) ∧ fl σ 52 10 ≠ fl σ 53 10 := by
  have a : KA π 22 := ⟨SHs.ob hS (i := 22) (n := 1024) (by decide) rfl, SHs.ln hS (i := 22) (t := 23) (by decide) rfl⟩
  have b : KA π 23 := ⟨SHs.ob hS (i := 23) (n := 1024) (by decide) rfl, SHs.ln hS (i := 23) (t := 23) (by decide) rfl⟩
  rcases h with ⟨h1, h2⟩ | ⟨h1, h2⟩
  · rw [h1, h2]; exact ⟨a, b, by decide⟩
  · rw [h1, h2]; exact ⟨b, a, by decide⟩
/-- passes until all is one run -/
theorem c_passes {many x1 : Int} (hN : 1025 ≤ N) (hS : SHs π) (h2 : many ≤ 1024) (h0 : 0 < many) : ∀ (n : Nat) (ks : List Int) (σ : St) (ps : Int), desL ks < n → KY σ → AK σ (fl σ 52 10) 0 ks → (∀ k ∈ ks, i64 k) → (ks.length : Int) = many → ks.Nodup → 0 ≤ ps → desL ks + ps ≤ 1023 → ∃ σ' ks', Es_sort_59 N π n σ x1 many ps = Es_sort_80 N π σ' x1 many ∧ KY σ' ∧ (∀ f i, f ≠ 52 → f ≠ 53 → fl σ' f i = fl σ f i) ∧ (∀ a j, a ≠ 22 → a ≠ 23 → el σ' a j = el σ a j) ∧ AK σ' (fl σ' 52 10) 0 ks' ∧ ks'.Perm ks ∧ ascL ks' := by
  intro n
  induction n with
  | zero => intro ks σ ps h; omega
  | succ n ih =>
    intro ks σ ps hn hY hk hb hl hd p0 p1
    obtain ⟨hK, hS', hne⟩ := hY.ka hS
    by_cases c : desL ks = 0
    · refine ⟨σ, ks, ?_, hY, fun _ _ _ _ => rfl, fun _ _ _ _ => rfl, hk, List.Perm.refl _, desL_asc c⟩
      rw [Es_sort_59, grd_t (by exact ⟨by omega, by omega⟩), if_pos (by omega), c_mergePass_t hN h2 hK hk hb hl h0 c, Option.bind_some, grd_t (show i32 1 by decide), if_neg (show ¬ (1 : Int) = 0 by decide)]
    · obtain ⟨σ1, q1, q2, q3, q4, q5, q6⟩ := c_mergePass_lp (N := N) (π := π) (many := many) hN h2 N ks σ 0 0 (by omega) hK hS' hne hk hb (Int.le_refl _) (Int.le_refl _) (by omega) (Or.inr c)
      have pd := pasL_des N ks (by omega) hd
      have pp := pasL_perm N ks
      have hY1 : KY σ1 := by
        unfold KY at hY ⊢
        rw [q3, q4]
        rcases hY with ⟨h1, h2⟩ | ⟨h1, h2⟩
        · exact Or.inr ⟨h2, h1⟩
        · exact Or.inl ⟨h2, h1⟩
      obtain ⟨σ2, ks', z1, z2, z3, z4, z5, z6, z7⟩ := ih (pasL N ks) σ1 (ps + 1) (by omega) hY1 (by rw [q3]; exact q6) (fun k hk => hb k (pp.mem_iff.1 hk)) (by rw [pasL_len]; exact hl) (pp.nodup_iff.2 hd) (by omega) (by omega)
      refine ⟨σ2, ks', ?_, z2, fun f i a b => (z3 f i a b).trans (q2 f i a b), fun a j h1 h3 => (z4 a j h1 h3).trans (q5 a j (Or.inl ?_)), z5, z6.trans pp, z7⟩
      · rw [Es_sort_59, grd_t (by exact ⟨by omega, by omega⟩), if_pos (by omega), Es_mergePass, q1, Option.bind_some, grd_t (show i32 0 by decide), if_pos rfl]
        exact z1
      · rcases hY with ⟨g1, g2⟩ | ⟨g1, g2⟩
        · rw [g2]; exact h3
        · rw [g2]; exact h1
end SO
