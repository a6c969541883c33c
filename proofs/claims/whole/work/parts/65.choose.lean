/-! choosing among events, taking some out -/
def CM (σ : St) (a : Int) (e : Evt × Int) : Prop := CE σ a e.1 ∧ el σ 16 a = e.2
def chs (lo hi x : Int) (e : Evt) : Bool := decide ((if e.1 < lo then 0 else if e.1 < hi then 1 else 0 : Int) = x)
section CH
variable {N : Nat} {π : Sh}
/-- one event moved down: what lies below and behind stays -/
theorem c_moved {σ : St} {i k m : Int} {e : Evt × Int} (h0 : 0 ≤ m) (h1 : m ≤ k) (h2 : k ≤ i) (h3 : i < 6000) (he : CM σ i e) : ∃ σ', Es_move N π σ i k = some σ' ∧ (∀ f j, fl σ' f j = fl σ f j) ∧ EF m σ σ' ∧ CM σ' k e ∧ (∀ a j, j < k ∨ i < j → el σ' a j = el σ a j) := by
  obtain ⟨σ', p1, p2, p3⟩ := c_move (N := N) (π := π) (σ := σ) (x1 := i) (x2 := k) ⟨by omega, by omega⟩ ⟨by omega, by omega⟩ he.1.2.2.z
  refine ⟨σ', p1, p2, EF.mk (fun f j _ => p2 f j) (fun a j ha => ?_) (fun a j _ _ hj => ?_), ?_, fun a j hj => ?_⟩
  · rw [p3, if_neg (by omega)]
  · rw [p3, if_neg (by omega)]
  · unfold CM CE at he ⊢
    rw [p3 11, p3 12, p3 13, p3 14, p3 15, p3 16, if_pos (by omega), if_pos (by omega), if_pos (by omega), if_pos (by omega), if_pos (by omega), if_pos (by omega)]
    exact he
  · by_cases hk : j = k
    · exfalso; omega
    · rw [p3, if_neg (by omega)]
theorem CM.of {σ σ' : St} {l : List (Evt × Int)} {a : Int} (h : ∀ b j, a ≤ j → j < a + l.length → el σ' b j = el σ b j) (k : At (CM σ) a l) : At (CM σ') a l := k.mono (fun i e a1 a2 _ h1 => by
  unfold CM CE at h1 ⊢
  rw [h 11 i a1 a2, h 12 i a1 a2, h 13 i a1 a2, h 14 i a1 a2, h 15 i a1 a2, h 16 i a1 a2]
  exact h1)
theorem CE.of {σ σ' : St} {l : List Evt} {a : Int} (h : ∀ b j, a ≤ j → j < a + l.length → el σ' b j = el σ b j) (k : At (CE σ) a l) : At (CE σ') a l := k.mono (fun i e a1 a2 _ h1 => by
  unfold CE at h1 ⊢
  rw [h 11 i a1 a2, h 12 i a1 a2, h 13 i a1 a2, h 14 i a1 a2, h 15 i a1 a2]
  exact h1)
theorem CM.ce {σ : St} {l : List (Evt × Int)} {a : Int} (k : At (CM σ) a l) : At (CE σ) a (l.map Prod.fst) := At.map (fun _ _ _ _ h => h.1) k
/-- marks as they are -/
theorem CE.cm {σ : St} : ∀ {l : List Evt} {a : Int}, At (CE σ) a l → ∃ lm : List (Evt × Int), At (CM σ) a lm ∧ lm.map Prod.fst = l
  | [], _, _ => ⟨[], trivial, rfl⟩
  | e :: l, a, h => by
    obtain ⟨lm, k1, k2⟩ := CE.cm h.2
    exact ⟨(e, el σ 16 a) :: lm, ⟨⟨h.1, rfl⟩, k1⟩, by rw [List.map_cons, k2]⟩
theorem c_choose_lp {lo hi x m : Int} (h64 : i64 lo ∧ i64 hi) (hx : i32 x) : ∀ (l : List (Evt × Int)) (n : Nat) (σ : St) (K : List (Evt × Int)) (i : Int), l.length < n → At (CM σ) m K → At (CM σ) i l → (∀ e ∈ l, i64 e.1.1) → 0 ≤ m → m + K.length ≤ i → i + l.length = fl σ 46 10 → fl σ 46 10 ≤ 6000 → ∃ σ', Es_choose_6 N π n σ lo hi x (m + K.length) i = some σ' ∧ EF m σ σ' ∧ (∀ f j, f ≠ 46 → fl σ' f j = fl σ f j) ∧ fl σ' 46 10 = m + K.length + (l.filter (fun e => chs lo hi x e.1)).length ∧ At (CM σ') m (K ++ l.filter (fun e => chs lo hi x e.1))
  | [], n + 1, σ, K, i, _, hK, _, _, h0, hi, h1, h2 => by
    simp only [List.length_nil] at h1
    refine ⟨sf σ 46 10 (m + K.length), ?_, EF.mk (fun f j hf => fl_sfn _ _ _ _ hf) (fun _ _ _ => rfl) (fun _ _ _ _ _ => rfl), fun f j hf => fl_sfn _ _ _ _ hf, by rw [fl_sfs]; simp, ?_⟩
    · rw [Es_choose_6, grd_t (by exact ⟨by omega, by omega⟩), grd_t (by exact ⟨by omega, by omega⟩), if_neg (by omega)]
    · simp only [List.filter_nil, List.append_nil]
      exact hK
  | e :: l, n + 1, σ, K, i, hn, hK, ha, hb, h0, hi', h1, h2 => by
    simp only [List.length_cons] at h1 hn
    obtain ⟨a1, a2⟩ := ha
    have b1 := hb e (by simp)
    have e1 : el σ 11 i = e.1.1 := a1.1.1
    -- the flag
    have flag : Es_choose_6 N π (n + 1) σ lo hi x (m + K.length) i = Es_choose_45 N π (Es_choose_6 N π n) σ lo hi x (m + K.length) i (if e.1.1 < lo then 0 else if e.1.1 < hi then 1 else 0 : Int) := by
      rw [Es_choose_6, grd_t (by exact ⟨by omega, by omega⟩), grd_t (by exact ⟨by omega, by omega⟩), if_pos (by omega), grd_t (by exact ⟨by omega, by omega⟩), e1, grd_t b1, grd_t h64.1]
      by_cases c1 : e.1.1 < lo
      · rw [if_pos c1, if_pos c1]; rfl
      · rw [if_neg c1, if_neg c1, grd_t h64.2]
        by_cases c2 : e.1.1 < hi
        · rw [if_pos c2, if_pos c2]
        · rw [if_neg c2, if_neg c2]; rfl
    by_cases c : (if e.1.1 < lo then 0 else if e.1.1 < hi then 1 else 0 : Int) = x
    · have cb : chs lo hi x e.1 = true := decide_eq_true c
      obtain ⟨σ1, p1, p2, p3, p4, p5⟩ := c_moved (N := N) (π := π) (m := m) h0 (show m ≤ m + (K.length : Int) by omega) hi' (by omega) a1
      have kk : m + (K.length : Int) + 1 = m + ((K ++ [e]).length : Int) := by simp only [List.length_append, List.length_cons, List.length_nil]; omega
      obtain ⟨σ2, q1, q2, q3, q4, q5⟩ := c_choose_lp h64 hx l n σ1 (K ++ [e]) (i + 1) (by omega) ((CM.of (fun b j _ j2 => p5 b j (by omega)) hK).snoc p4) (CM.of (fun b j j1 _ => p5 b j (by omega)) a2) (fun e' he => hb e' (by simp [he])) h0 (by omega) (by rw [p2]; omega) (by rw [p2]; omega)
      refine ⟨σ2, ?_, p3.tr q2 (Int.le_refl _), fun f j hf => (q3 f j hf).trans (p2 f j), ?_, ?_⟩
      · rw [flag, Es_choose_45, grd_t (by rw [c]; exact hx), grd_t hx, if_pos c, p1, Option.bind_some, Es_choose_61, kk]
        exact q1
      · rw [q4, List.filter_cons, if_pos cb]; simp only [List.length_append, List.length_cons, List.length_nil]; omega
      · rw [List.filter_cons, if_pos cb]
        rw [List.append_assoc] at q5
        exact q5
    · have cb : ¬ chs lo hi x e.1 = true := fun h => c (of_decide_eq_true h)
      obtain ⟨σ2, q1, q2, q3, q4, q5⟩ := c_choose_lp h64 hx l n σ K (i + 1) (by omega) hK a2 (fun e' he => hb e' (by simp [he])) h0 (by omega) (by omega) (by omega)
      refine ⟨σ2, ?_, q2, q3, ?_, ?_⟩
      · rw [flag, Es_choose_45, grd_t (by split <;> first | decide | (split <;> decide)), grd_t hx, if_neg c, Es_choose_61]
        exact q1
      · rw [q4, List.filter_cons, if_neg cb]
      · rw [List.filter_cons, if_neg cb]
        exact q5
theorem flt_fst (P : Evt → Bool) : ∀ (l : List (Evt × Int)), (l.filter (fun e => P e.1)).map Prod.fst = (l.map Prod.fst).filter P
  | [] => rfl
  | e :: l => by
    simp only [List.filter_cons, List.map_cons]
    split
    · rw [List.map_cons, flt_fst P l]
    · exact flt_fst P l
theorem c_choose {lo hi x i : Int} {σ : St} {l : List Evt} (hN : 6001 ≤ N) (h64 : i64 lo ∧ i64 hi) (hx : i32 x) (ha : At (CE σ) i l) (hb : ∀ e ∈ l, i64 e.1) (h0 : 0 ≤ i) (h1 : i + l.length = fl σ 46 10) (h2 : fl σ 46 10 ≤ 6000) : ∃ σ', Es_choose N π σ i lo hi x = some σ' ∧ EF i σ σ' ∧ (∀ f j, f ≠ 46 → fl σ' f j = fl σ f j) ∧ fl σ' 46 10 = i + (l.filter (chs lo hi x)).length ∧ At (CE σ') i (l.filter (chs lo hi x)) := by
  obtain ⟨lm, k1, rfl⟩ := CE.cm ha
  obtain ⟨σ', q1, q2, q3, q4, q5⟩ := c_choose_lp (N := N) (π := π) (lo := lo) (hi := hi) (x := x) (m := i) h64 hx lm N σ [] i (by simp only [List.length_map] at h1; omega) trivial k1 (fun e he => hb e.1 (List.mem_map_of_mem he)) h0 (by simp) (by simpa using h1) h2
  refine ⟨σ', ?_, q2, q3, ?_, ?_⟩
  · simp only [List.length_nil] at q1
    rw [Es_choose]
    simpa using q1
  · rw [q4, ← flt_fst (chs lo hi x), List.length_map]
    simp
  · rw [← flt_fst (chs lo hi x)]
    exact CM.ce q5
theorem c_chosen_lp {x m : Int} (hx : i32 x) : ∀ (l : List (Evt × Int)) (n : Nat) (σ : St) (K : List (Evt × Int)) (i : Int), l.length < n → At (CM σ) m K → At (CM σ) i l → (∀ e ∈ l, i32 e.2) → 0 ≤ m → m + K.length ≤ i → i + l.length = fl σ 46 10 → fl σ 46 10 ≤ 6000 → ∃ σ', Es_chooseMarked_5 N π n σ x (m + K.length) i = some σ' ∧ EF m σ σ' ∧ (∀ f j, f ≠ 46 → fl σ' f j = fl σ f j) ∧ fl σ' 46 10 = m + K.length + (l.filter (fun e => decide (e.2 = x))).length ∧ At (CM σ') m (K ++ l.filter (fun e => decide (e.2 = x)))
  | [], n + 1, σ, K, i, _, hK, _, _, h0, hi, h1, h2 => by
    simp only [List.length_nil] at h1
    refine ⟨sf σ 46 10 (m + K.length), ?_, EF.mk (fun f j hf => fl_sfn _ _ _ _ hf) (fun _ _ _ => rfl) (fun _ _ _ _ _ => rfl), fun f j hf => fl_sfn _ _ _ _ hf, by rw [fl_sfs]; simp, ?_⟩
    · rw [Es_chooseMarked_5, grd_t (by exact ⟨by omega, by omega⟩), grd_t (by exact ⟨by omega, by omega⟩), if_neg (by omega)]
    · simp only [List.filter_nil, List.append_nil]
      exact hK
  | e :: l, n + 1, σ, K, i, hn, hK, ha, hb, h0, hi', h1, h2 => by
    simp only [List.length_cons] at h1 hn
    obtain ⟨a1, a2⟩ := ha
    have b1 := hb e (by simp)
    have e1 : el σ 16 i = e.2 := a1.2
    by_cases c : e.2 = x
    · have cb : decide (e.2 = x) = true := decide_eq_true c
      obtain ⟨σ1, p1, p2, p3, p4, p5⟩ := c_moved (N := N) (π := π) (m := m) h0 (show m ≤ m + (K.length : Int) by omega) hi' (by omega) a1
      have kk : m + (K.length : Int) + 1 = m + ((K ++ [e]).length : Int) := by simp only [List.length_append, List.length_cons, List.length_nil]; omega
      obtain ⟨σ2, q1, q2, q3, q4, q5⟩ := c_chosen_lp hx l n σ1 (K ++ [e]) (i + 1) (by omega) ((CM.of (fun b j _ j2 => p5 b j (by omega)) hK).snoc p4) (CM.of (fun b j j1 _ => p5 b j (by omega)) a2) (fun e' he => hb e' (by simp [he])) h0 (by omega) (by rw [p2]; omega) (by rw [p2]; omega)
      refine ⟨σ2, ?_, p3.tr q2 (Int.le_refl _), fun f j hf => (q3 f j hf).trans (p2 f j), ?_, ?_⟩
      · rw [Es_chooseMarked_5, grd_t (by exact ⟨by omega, by omega⟩), grd_t (by exact ⟨by omega, by omega⟩), if_pos (by omega), grd_t (by exact ⟨by omega, by omega⟩), e1, grd_t b1, grd_t hx, if_pos c, p1, Option.bind_some, Es_chooseMarked_35, kk]
        exact q1
      · rw [q4, List.filter_cons, if_pos cb]; simp only [List.length_append, List.length_cons, List.length_nil]; omega
      · rw [List.filter_cons, if_pos cb]
        rw [List.append_assoc] at q5
        exact q5
    · have cb : ¬ decide (e.2 = x) = true := fun h => c (of_decide_eq_true h)
      obtain ⟨σ2, q1, q2, q3, q4, q5⟩ := c_chosen_lp hx l n σ K (i + 1) (by omega) hK a2 (fun e' he => hb e' (by simp [he])) h0 (by omega) (by omega) (by omega)
      refine ⟨σ2, ?_, q2, q3, ?_, ?_⟩
      · rw [Es_chooseMarked_5, grd_t (by exact ⟨by omega, by omega⟩), grd_t (by exact ⟨by omega, by omega⟩), if_pos (by omega), grd_t (by exact ⟨by omega, by omega⟩), e1, grd_t b1, grd_t hx, if_neg c, Es_chooseMarked_35]
        exact q1
      · rw [q4, List.filter_cons, if_neg cb]
      · rw [List.filter_cons, if_neg cb]
        exact q5
theorem c_chosen {x i : Int} {σ : St} {l : List (Evt × Int)} (hN : 6001 ≤ N) (hx : i32 x) (ha : At (CM σ) i l) (hb : ∀ e ∈ l, i32 e.2) (h0 : 0 ≤ i) (h1 : i + l.length = fl σ 46 10) (h2 : fl σ 46 10 ≤ 6000) : ∃ σ', Es_chooseMarked N π σ i x = some σ' ∧ EF i σ σ' ∧ (∀ f j, f ≠ 46 → fl σ' f j = fl σ f j) ∧ fl σ' 46 10 = i + (l.filter (fun e => decide (e.2 = x))).length ∧ At (CM σ') i (l.filter (fun e => decide (e.2 = x))) := by
  obtain ⟨σ', q1, q2, q3, q4, q5⟩ := c_chosen_lp (N := N) (π := π) (x := x) (m := i) hx l N σ [] i (by omega) trivial ha hb h0 (by simp) h1 h2
  refine ⟨σ', ?_, q2, q3, ?_, q5⟩
  · rw [Es_chooseMarked]
    simpa using q1
  · rw [q4]; simp
theorem c_remove_lp {m : Int} : ∀ (l : List (Evt × Int)) (n : Nat) (σ : St) (K : List (Evt × Int)) (i : Int), l.length < n → At (CM σ) m K → At (CM σ) i l → 0 ≤ m → m + K.length ≤ i → i + l.length = fl σ 46 10 → fl σ 46 10 ≤ 6000 → ∃ σ', Es_remove_5 N π n σ (m + K.length) i = some σ' ∧ EF m σ σ' ∧ (∀ f j, f ≠ 46 → fl σ' f j = fl σ f j) ∧ fl σ' 46 10 = m + K.length + l.length ∧ At (CM σ') m (K ++ l)
  | [], n + 1, σ, K, i, _, hK, _, h0, hi, h1, h2 => by
    simp only [List.length_nil] at h1
    refine ⟨sf σ 46 10 (m + K.length), ?_, EF.mk (fun f j hf => fl_sfn _ _ _ _ hf) (fun _ _ _ => rfl) (fun _ _ _ _ _ => rfl), fun f j hf => fl_sfn _ _ _ _ hf, by rw [fl_sfs]; simp, ?_⟩
    · rw [Es_remove_5, grd_t (by exact ⟨by omega, by omega⟩), grd_t (by exact ⟨by omega, by omega⟩), if_neg (by omega)]
    · simp only [List.append_nil]
      exact hK
  | e :: l, n + 1, σ, K, i, hn, hK, ha, h0, hi', h1, h2 => by
    simp only [List.length_cons] at h1 hn
    obtain ⟨a1, a2⟩ := ha
    obtain ⟨σ1, p1, p2, p3, p4, p5⟩ := c_moved (N := N) (π := π) (m := m) h0 (show m ≤ m + (K.length : Int) by omega) hi' (by omega) a1
    have kk : m + (K.length : Int) + 1 = m + ((K ++ [e]).length : Int) := by simp only [List.length_append, List.length_cons, List.length_nil]; omega
    obtain ⟨σ2, q1, q2, q3, q4, q5⟩ := c_remove_lp l n σ1 (K ++ [e]) (i + 1) (by omega) ((CM.of (fun b j _ j2 => p5 b j (by omega)) hK).snoc p4) (CM.of (fun b j j1 _ => p5 b j (by omega)) a2) h0 (by omega) (by rw [p2]; omega) (by rw [p2]; omega)
    refine ⟨σ2, ?_, p3.tr q2 (Int.le_refl _), fun f j hf => (q3 f j hf).trans (p2 f j), ?_, ?_⟩
    · rw [Es_remove_5, grd_t (by exact ⟨by omega, by omega⟩), grd_t (by exact ⟨by omega, by omega⟩), if_pos (by omega), p1, Option.bind_some, kk]
      exact q1
    · rw [q4]; simp only [List.length_append, List.length_cons, List.length_nil]; omega
    · rw [List.append_assoc] at q5
      exact q5
theorem c_remove {i to : Int} {σ : St} {l : List Evt} (hN : 6001 ≤ N) (h0 : 0 ≤ i) (h3 : i ≤ to) (ha : At (CE σ) to l) (h1 : to + l.length = fl σ 46 10) (h2 : fl σ 46 10 ≤ 6000) : ∃ σ', Es_remove N π σ i to = some σ' ∧ EF i σ σ' ∧ (∀ f j, f ≠ 46 → fl σ' f j = fl σ f j) ∧ fl σ' 46 10 = i + l.length ∧ At (CE σ') i l := by
  obtain ⟨lm, k1, rfl⟩ := CE.cm ha
  obtain ⟨σ', q1, q2, q3, q4, q5⟩ := c_remove_lp (N := N) (π := π) (m := i) lm N σ [] to (by simp only [List.length_map] at h1; omega) trivial k1 h0 (by simp; omega) (by simpa using h1) h2
  refine ⟨σ', ?_, q2, q3, ?_, CM.ce q5⟩
  · rw [Es_remove]
    simpa using q1
  · rw [q4]; simp
end CH
