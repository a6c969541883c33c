/-! events of the reference: arrays 52 from, 51 upTo, 50 49 48 47 the value, 46 45 44 43 what sounds -/
def RE (τ : St) (a : Int) (e : Evt) : Prop := el τ 52 a = e.1 ∧ el τ 51 a = e.2.1 ∧ el τ 50 a = e.2.2.1 ∧ el τ 49 a = e.2.2.2.1 ∧ el τ 48 a = e.2.2.2.2.1 ∧ el τ 47 a = e.2.2.2.2.2
/-- with what sounds there (wordA, wordB, amount, has) -/
def RM (τ : St) (a : Int) (e : Evt × Vl) : Prop := RE τ a e.1 ∧ el τ 45 a = e.2.1 ∧ el τ 44 a = e.2.2.1 ∧ el τ 43 a = e.2.2.2.1 ∧ el τ 46 a = e.2.2.2.2
/-- what working on events leaves alone -/
def RP (m : Int) (τ τ' : St) : Prop := (∀ f i, f ≠ 84 → fl τ' f i = fl τ f i) ∧ (∀ a j, a < 43 ∨ 52 < a → el τ' a j = el τ a j) ∧ ∀ a j, j < m → el τ' a j = el τ a j
theorem RP.rf (m : Int) (τ : St) : RP m τ τ := ⟨fun _ _ _ => rfl, fun _ _ _ => rfl, fun _ _ _ => rfl⟩
theorem RP.tr {m m' : Int} {τ τ1 τ2 : St} (h : RP m τ τ1) (k : RP m' τ1 τ2) (hm : m ≤ m') : RP m τ τ2 :=
  ⟨fun f i a => (k.1 f i a).trans (h.1 f i a), fun a j x => (k.2.1 a j x).trans (h.2.1 a j x), fun a j x => (k.2.2 a j (by omega)).trans (h.2.2 a j x)⟩
theorem RE.of {τ τ' : St} {l : List Evt} {a : Int} (h : ∀ b j, a ≤ j → j < a + l.length → el τ' b j = el τ b j) (k : At (RE τ) a l) : At (RE τ') a l := k.mono (fun i e a1 a2 _ h1 => by
  unfold RE at h1 ⊢
  rw [h 52 i a1 a2, h 51 i a1 a2, h 50 i a1 a2, h 49 i a1 a2, h 48 i a1 a2, h 47 i a1 a2]
  exact h1)
theorem RM.of {τ τ' : St} {l : List (Evt × Vl)} {a : Int} (h : ∀ b j, a ≤ j → j < a + l.length → el τ' b j = el τ b j) (k : At (RM τ) a l) : At (RM τ') a l := k.mono (fun i e a1 a2 _ h1 => by
  unfold RM RE at h1 ⊢
  rw [h 52 i a1 a2, h 51 i a1 a2, h 50 i a1 a2, h 49 i a1 a2, h 48 i a1 a2, h 47 i a1 a2, h 46 i a1 a2, h 45 i a1 a2, h 44 i a1 a2, h 43 i a1 a2]
  exact h1)
theorem RM.re {τ : St} {l : List (Evt × Vl)} {a : Int} (k : At (RM τ) a l) : At (RE τ) a (l.map Prod.fst) := At.map (fun _ _ _ _ h => h.1) k
theorem RE.rm {τ : St} : ∀ {l : List Evt} {a : Int}, At (RE τ) a l → ∃ lm : List (Evt × Vl), At (RM τ) a lm ∧ lm.map Prod.fst = l
  | [], _, _ => ⟨[], trivial, rfl⟩
  | e :: l, a, h => by
    obtain ⟨lm, k1, k2⟩ := RE.rm h.2
    exact ⟨(e, (el τ 45 a, el τ 44 a, el τ 43 a, el τ 46 a)) :: lm, ⟨⟨h.1, rfl, rfl, rfl, rfl⟩, k1⟩, by rw [List.map_cons, k2]⟩
theorem RP.at {m : Int} {τ τ' : St} (h : RP m τ τ') {l : List Evt} {a : Int} (k : At (RE τ) a l) (hm : a + l.length ≤ m) : At (RE τ') a l := RE.of (fun b j _ j2 => h.2.2 b j (by omega)) k
section RV1
variable {N : Nat}
theorem r_emit' {τ : St} {b e x5 x6 x7 x8 : Int} (h0 : 0 ≤ fl τ 84 0) (h1 : fl τ 84 0 < 30000) : ∃ τ', r_emit N τ b e x5 x6 x7 x8 = some τ' ∧ RP (fl τ 84 0) τ τ' ∧ fl τ' 84 0 = fl τ 84 0 + 1 ∧ RE τ' (fl τ 84 0) (b, e, x5, x6, x7, x8) ∧ ∀ a j, j ≠ fl τ 84 0 → el τ' a j = el τ a j := by
  refine ⟨sf (se (se (se (se (se (se τ 52 (fl τ 84 0) b) 51 (fl τ 84 0) e) 50 (fl τ 84 0) x5) 49 (fl τ 84 0) x6) 48 (fl τ 84 0) x7) 47 (fl τ 84 0) x8) 84 0 ((fl τ 84 0) + 1), ?_, ⟨fun f i hf => fl_sfn _ _ _ _ hf, fun a j ha => ?_, fun a j hj => ?_⟩, fl_sfs _ _ _ _, ?_, fun a j hj => ?_⟩
  · rw [r_emit, grd_t (by exact ⟨by omega, by omega⟩)]
  · rw [el_sf, el_sen _ _ _ _ (by omega), el_sen _ _ _ _ (by omega), el_sen _ _ _ _ (by omega), el_sen _ _ _ _ (by omega), el_sen _ _ _ _ (by omega), el_sen _ _ _ _ (by omega)]
  · simp only [el_sf, el_se]
    rw [if_neg (by omega), if_neg (by omega), if_neg (by omega), if_neg (by omega), if_neg (by omega), if_neg (by omega)]
  · unfold RE
    simp only [el_sf, el_se]
    exact ⟨rfl, rfl, rfl, rfl, rfl, rfl⟩
  · simp only [el_sf, el_se]
    rw [if_neg (by omega), if_neg (by omega), if_neg (by omega), if_neg (by omega), if_neg (by omega), if_neg (by omega)]
theorem r_copy' {τ : St} {x1 x2 : Int} (h1 : 0 ≤ x1 ∧ x1 < 30000) (h2 : 0 ≤ x2 ∧ x2 < 30000) : ∃ τ', r_copy N τ x1 x2 = some τ' ∧ (∀ f i, fl τ' f i = fl τ f i) ∧ ∀ a j, el τ' a j = if (43 ≤ a ∧ a ≤ 52) ∧ j = x2 then el τ a x1 else el τ a j := by
  refine ⟨se (se (se (se (se (se (se (se (se (se τ 52 x2 (el τ 52 x1)) 51 x2 (el τ 51 x1)) 50 x2 (el τ 50 x1)) 49 x2 (el τ 49 x1)) 48 x2 (el τ 48 x1)) 47 x2 (el τ 47 x1)) 46 x2 (el τ 46 x1)) 45 x2 (el τ 45 x1)) 44 x2 (el τ 44 x1)) 43 x2 (el τ 43 x1), ?_, fun _ _ => rfl, fun a j => ?_⟩
  · rw [r_copy, grd_t (by exact ⟨by omega, by omega⟩), grd_t (by exact ⟨by omega, by omega⟩)]
  · simp only [el_se]
    by_cases hj : j = x2
    · by_cases ha : 43 ≤ a ∧ a ≤ 52
      · have : a = 43 ∨ a = 44 ∨ a = 45 ∨ a = 46 ∨ a = 47 ∨ a = 48 ∨ a = 49 ∨ a = 50 ∨ a = 51 ∨ a = 52 := by omega
        rcases this with rfl | rfl | rfl | rfl | rfl | rfl | rfl | rfl | rfl | rfl <;> simp [hj]
      · rw [if_neg (by omega), if_neg (by omega), if_neg (by omega), if_neg (by omega), if_neg (by omega), if_neg (by omega), if_neg (by omega), if_neg (by omega), if_neg (by omega), if_neg (by omega), if_neg (by omega)]
    · rw [if_neg (by omega), if_neg (by omega), if_neg (by omega), if_neg (by omega), if_neg (by omega), if_neg (by omega), if_neg (by omega), if_neg (by omega), if_neg (by omega), if_neg (by omega), if_neg (by omega)]
theorem RM.cp {τ τ' : St} {i k : Int} {e : Evt × Vl} (he : RM τ i e) (h : ∀ a, 43 ≤ a ∧ a ≤ 52 → el τ' a k = el τ a i) : RM τ' k e := by
  unfold RM RE at he ⊢
  rw [h 52 (by decide), h 51 (by decide), h 50 (by decide), h 49 (by decide), h 48 (by decide), h 47 (by decide), h 46 (by decide), h 45 (by decide), h 44 (by decide), h 43 (by decide)]
  exact he
theorem r_copied {τ : St} {i k m : Int} {e : Evt × Vl} (h0 : 0 ≤ m) (h1 : m ≤ k) (h2 : k ≤ i) (h3 : i < 30000) (he : RM τ i e) : ∃ τ', r_copy N τ i k = some τ' ∧ (∀ f j, fl τ' f j = fl τ f j) ∧ RP m τ τ' ∧ RM τ' k e ∧ (∀ a j, j < k ∨ i < j → el τ' a j = el τ a j) := by
  obtain ⟨τ', p1, p2, p3⟩ := r_copy' (N := N) (τ := τ) (x1 := i) (x2 := k) ⟨by omega, by omega⟩ ⟨by omega, by omega⟩
  refine ⟨τ', p1, p2, ⟨fun f j _ => p2 f j, fun a j ha => ?_, fun a j hj => ?_⟩, ?_, fun a j hj => ?_⟩
  · rw [p3, if_neg (by omega)]
  · rw [p3, if_neg (by omega)]
  · exact he.cp (fun a ha => by rw [p3, if_pos ⟨ha, rfl⟩])
  · by_cases hk : j = k
    · exfalso; omega
    · rw [p3, if_neg (by omega)]
/-- events moved and stretched -/
def mvA (k b : Int) (l : List Evt) : List Evt := l.map (fun e => (e.1 * k + b, e.2.1 * k + b, e.2.2))
theorem r_move_lp {k b : Int} : ∀ (l : List Evt) (n : Nat) (τ : St) (i : Int), l.length < n → At (RE τ) i l → 0 ≤ i → i + l.length = fl τ 84 0 → fl τ 84 0 ≤ 29999 → ∃ τ', r_move_3 N n τ k b i = some τ' ∧ RP i τ τ' ∧ fl τ' 84 0 = fl τ 84 0 ∧ At (RE τ') i (mvA k b l)
  | [], n + 1, τ, i, _, _, h0, h1, h2 => by
    simp only [List.length_nil] at h1
    refine ⟨τ, ?_, RP.rf _ _, rfl, trivial⟩
    rw [r_move_3, grd_t (by exact ⟨by omega, by omega⟩), grd_t (by exact ⟨by omega, by omega⟩), if_neg (by omega)]
  | e :: l, n + 1, τ, i, hn, ha, h0, h1, h2 => by
    simp only [List.length_cons] at h1 hn
    obtain ⟨⟨e1, e2, e3⟩, ha⟩ := ha
    have f1 : RP i τ (se (se τ 52 i (e.1 * k + b)) 51 i (e.2.1 * k + b)) := ⟨fun _ _ _ => rfl, fun a j ha => by rw [el_sen _ _ _ _ (by omega), el_sen _ _ _ _ (by omega)], fun a j hj => by
      simp only [el_se]
      rw [if_neg (by omega), if_neg (by omega)]⟩
    have a1 : At (RE (se (se τ 52 i (e.1 * k + b)) 51 i (e.2.1 * k + b))) (i + 1) l := RE.of (fun c j j1 j2 => by
      simp only [el_se]
      rw [if_neg (by omega), if_neg (by omega)]) ha
    have c1 : RE (se (se τ 52 i (e.1 * k + b)) 51 i (e.2.1 * k + b)) i (e.1 * k + b, e.2.1 * k + b, e.2.2) := by
      unfold RE
      simp only [el_se]
      exact ⟨rfl, rfl, e3⟩
    obtain ⟨τ2, q1, q2, q3, q4⟩ := r_move_lp (k := k) (b := b) l n (se (se τ 52 i (e.1 * k + b)) 51 i (e.2.1 * k + b)) (i + 1) (by omega) a1 (by omega) (by show i + 1 + (l.length : Int) = fl τ 84 0; omega) h2
    refine ⟨τ2, ?_, f1.tr q2 (by omega), q3, ?_, q4⟩
    · rw [r_move_3, grd_t (by exact ⟨by omega, by omega⟩), grd_t (by exact ⟨by omega, by omega⟩), if_pos (by omega), grd_t (by exact ⟨by omega, by omega⟩), e1, e2]
      exact q1
    · have : At (RE (se (se τ 52 i (e.1 * k + b)) 51 i (e.2.1 * k + b))) i [(e.1 * k + b, e.2.1 * k + b, e.2.2)] := ⟨c1, trivial⟩
      exact (q2.at this (by simp)).1
theorem r_move' {k b : Int} {l : List Evt} {τ : St} {i : Int} (hN : 30000 ≤ N) (ha : At (RE τ) i l) (h0 : 0 ≤ i) (h1 : i + l.length = fl τ 84 0) (h2 : fl τ 84 0 ≤ 29999) : ∃ τ', r_move N τ i k b = some τ' ∧ RP i τ τ' ∧ fl τ' 84 0 = fl τ 84 0 ∧ At (RE τ') i (mvA k b l) := r_move_lp l N τ i (by omega) ha h0 h1 h2
def inW (lo hi : Int) (e : Evt) : Bool := decide (lo ≤ e.1 ∧ e.1 < hi)
theorem flt_fst2 {β : Type} (P : Evt → Bool) : ∀ (l : List (Evt × β)), (l.filter (fun e => P e.1)).map Prod.fst = (l.map Prod.fst).filter P
  | [] => rfl
  | e :: l => by
    simp only [List.filter_cons, List.map_cons]
    split
    · rw [List.map_cons, flt_fst2 P l]
    · exact flt_fst2 P l
theorem r_clip_lp {lo hi m : Int} (h64 : i64 lo ∧ i64 hi) : ∀ (l : List (Evt × Vl)) (n : Nat) (τ : St) (K : List (Evt × Vl)) (i : Int), l.length < n → At (RM τ) m K → At (RM τ) i l → (∀ e ∈ l, i64 e.1.1) → 0 ≤ m → m + K.length ≤ i → i + l.length = fl τ 84 0 → fl τ 84 0 ≤ 29999 → ∃ τ', r_clip_6 N n τ lo hi (m + K.length) i = some τ' ∧ RP m τ τ' ∧ fl τ' 84 0 = m + K.length + (l.filter (fun e => inW lo hi e.1)).length ∧ At (RM τ') m (K ++ l.filter (fun e => inW lo hi e.1))
  | [], n + 1, τ, K, i, _, hK, _, _, h0, hi, h1, h2 => by
    simp only [List.length_nil] at h1
    refine ⟨sf τ 84 0 (m + K.length), ?_, ⟨fun f j hf => fl_sfn _ _ _ _ hf, fun _ _ _ => rfl, fun _ _ _ => rfl⟩, by rw [fl_sfs]; simp, ?_⟩
    · rw [r_clip_6, grd_t (by exact ⟨by omega, by omega⟩), grd_t (by exact ⟨by omega, by omega⟩), if_neg (by omega)]
    · simp only [List.filter_nil, List.append_nil]
      exact hK
  | e :: l, n + 1, τ, K, i, hn, hK, ha, hb, h0, hi', h1, h2 => by
    simp only [List.length_cons] at h1 hn
    obtain ⟨a1, a2⟩ := ha
    have b1 := hb e (by simp)
    have e1 : el τ 52 i = e.1.1 := a1.1.1
    by_cases c : lo ≤ e.1.1 ∧ e.1.1 < hi
    · have cb : inW lo hi e.1 = true := decide_eq_true c
      obtain ⟨τ1, p1, p2, p3, p4, p5⟩ := r_copied (N := N) (m := m) h0 (show m ≤ m + (K.length : Int) by omega) hi' (by omega) a1
      have kk : m + (K.length : Int) + 1 = m + ((K ++ [e]).length : Int) := by simp only [List.length_append, List.length_cons, List.length_nil]; omega
      obtain ⟨τ2, q1, q2, q4, q5⟩ := r_clip_lp h64 l n τ1 (K ++ [e]) (i + 1) (by omega) ((RM.of (fun b j _ j2 => p5 b j (by omega)) hK).snoc p4) (RM.of (fun b j j1 _ => p5 b j (by omega)) a2) (fun e' he => hb e' (by simp [he])) h0 (by omega) (by rw [p2]; omega) (by rw [p2]; omega)
      refine ⟨τ2, ?_, p3.tr q2 (Int.le_refl _), ?_, ?_⟩
      · rw [r_clip_6, grd_t (by exact ⟨by omega, by omega⟩), grd_t (by exact ⟨by omega, by omega⟩), if_pos (by omega), grd_t (by exact ⟨by omega, by omega⟩), e1, grd_t b1, grd_t h64.1, if_neg (show ¬ e.1.1 < lo by omega), grd_t h64.2, if_pos c.2, p1, Option.bind_some, r_clip_54, kk]
        exact q1
      · rw [q4, List.filter_cons, if_pos cb]; simp only [List.length_append, List.length_cons, List.length_nil]; omega
      · rw [List.filter_cons, if_pos cb]
        rw [List.append_assoc] at q5
        exact q5
    · have cb : ¬ inW lo hi e.1 = true := fun h => c (of_decide_eq_true h)
      obtain ⟨τ2, q1, q2, q4, q5⟩ := r_clip_lp h64 l n τ K (i + 1) (by omega) hK a2 (fun e' he => hb e' (by simp [he])) h0 (by omega) (by omega) (by omega)
      refine ⟨τ2, ?_, q2, ?_, ?_⟩
      · rw [r_clip_6, grd_t (by exact ⟨by omega, by omega⟩), grd_t (by exact ⟨by omega, by omega⟩), if_pos (by omega), grd_t (by exact ⟨by omega, by omega⟩), e1, grd_t b1, grd_t h64.1]
        by_cases c1 : e.1.1 < lo
        · rw [if_pos c1]; exact q1
        · rw [if_neg c1, grd_t h64.2, if_neg (fun k => c ⟨by omega, k⟩)]; exact q1
      · rw [q4, List.filter_cons, if_neg cb]
      · rw [List.filter_cons, if_neg cb]
        exact q5
theorem r_clip' {lo hi i : Int} {τ : St} {l : List Evt} (hN : 30000 ≤ N) (h64 : i64 lo ∧ i64 hi) (ha : At (RE τ) i l) (hb : ∀ e ∈ l, i64 e.1) (h0 : 0 ≤ i) (h1 : i + l.length = fl τ 84 0) (h2 : fl τ 84 0 ≤ 29999) : ∃ τ', r_clip N τ i lo hi = some τ' ∧ RP i τ τ' ∧ fl τ' 84 0 = i + (l.filter (inW lo hi)).length ∧ At (RE τ') i (l.filter (inW lo hi)) := by
  obtain ⟨lm, k1, rfl⟩ := RE.rm ha
  obtain ⟨τ', q1, q2, q4, q5⟩ := r_clip_lp (N := N) (lo := lo) (hi := hi) (m := i) h64 lm N τ [] i (by simp only [List.length_map] at h1; omega) trivial k1 (fun e he => hb e.1 (List.mem_map_of_mem he)) h0 (by simp) (by simpa using h1) h2
  refine ⟨τ', ?_, q2, ?_, ?_⟩
  · rw [r_clip]
    simpa using q1
  · rw [q4, ← flt_fst2 (inW lo hi), List.length_map]
    simp
  · rw [← flt_fst2 (inW lo hi)]
    exact RM.re q5
/-- the shifting of what is greater, from the right -/
theorem r_ins_lp {rec4 : St → Int → Int → Option St} {m x2 : Int} {x : Evt} (hx : i64 x.1) (h0 : 0 ≤ m) : ∀ (n : Nat) (K : List Evt) (R : List Evt) (τ : St), K.length < n → At (RE τ) m K → At (RE τ) (m + K.length + 1) R → RE τ 29999 x → (∀ e ∈ K, i64 e.1) → (∀ e ∈ R, x.1 < e.1) → K.Pairwise (fun a b => a.1 ≤ b.1) → m + K.length + 1 + R.length ≤ 29999 → ∃ τ', r_sort_46 N rec4 n τ m x2 x.1 (m + K.length) = rec4 τ' m (x2 + 1) ∧ (∀ f j, fl τ' f j = fl τ f j) ∧ (∀ a j, a < 43 ∨ 52 < a ∨ j < m ∨ (m + K.length + R.length < j) → el τ' a j = el τ a j) ∧ At (RE τ') m (insL ltE x (K ++ R)) := by
  intro n
  induction n with
  | zero => intro K R τ h; omega
  | succ n ih =>
    intro K R τ hn hK hR hX bK bR pK h2
    -- the end: x comes behind K
    have fin : ∀ (hc : ∀ e ∈ K, e.1 ≤ x.1), ∃ τ', r_sort_82 N rec4 τ m x2 (m + K.length) = rec4 τ' m (x2 + 1) ∧ (∀ f j, fl τ' f j = fl τ f j) ∧ (∀ a j, a < 43 ∨ 52 < a ∨ j < m ∨ (m + K.length + R.length < j) → el τ' a j = el τ a j) ∧ At (RE τ') m (insL ltE x (K ++ R)) := by
      intro hc
      obtain ⟨τ', p1, p2, p3⟩ := r_copy' (N := N) (τ := τ) (x1 := 29999) (x2 := m + K.length) ⟨by omega, by omega⟩ ⟨by omega, by omega⟩
      refine ⟨τ', ?_, p2, fun a j h => ?_, ?_⟩
      · rw [r_sort_82, p1, Option.bind_some, r_sort_91]
      · rw [p3, if_neg (by omega)]
      · have hi : insL ltE x (K ++ R) = K ++ x :: R := by
          have hK' : ∀ z ∈ K, ltE x z = false := fun z hz => decide_eq_false (by have := hc z hz; omega)
          cases R with
          | nil => rw [List.append_nil, insL_end hK']
          | cons y R => exact insL_mid hK' (decide_eq_true (bR y (by simp)))
        rw [hi]
        refine At.app (RE.of (fun b j j1 j2 => by rw [p3, if_neg (by omega)]) hK) ⟨?_, RE.of (fun b j j1 j2 => by rw [p3, if_neg (by omega)]) hR⟩
        unfold RE at hX ⊢
        rw [p3 52, p3 51, p3 50, p3 49, p3 48, p3 47, if_pos (by simp), if_pos (by simp), if_pos (by simp), if_pos (by simp), if_pos (by simp), if_pos (by simp)]
        exact hX
    by_cases hk : K = []
    · subst hk
      obtain ⟨τ', q1, q2, q3, q4⟩ := fin (by simp)
      refine ⟨τ', ?_, q2, q3, q4⟩
      simp only [List.length_nil] at q1 h2 ⊢
      rw [r_sort_46, grd_t (by exact ⟨by omega, by omega⟩), grd_t (by exact ⟨by omega, by omega⟩), if_neg (by omega)]
      exact q1
    · obtain ⟨K', y, rfl⟩ : ∃ K' y, K = K' ++ [y] := ⟨K.dropLast, K.getLast hk, (List.dropLast_concat_getLast hk).symm⟩
      have len : ((K' ++ [y]).length : Int) = K'.length + 1 := by simp
      have hy := hK.rt.1
      have y1 : el τ 52 (m + K'.length) = y.1 := hy.1
      have by1 := bK y (by simp)
      have st : r_sort_46 N rec4 (n + 1) τ m x2 x.1 (m + (K' ++ [y]).length) = if x.1 < y.1 then Option.bind (r_copy N τ (m + K'.length) (m + K'.length + 1)) (fun r22 => r_sort_46 N rec4 n r22 m x2 x.1 (m + K'.length)) else r_sort_82 N rec4 τ m x2 (m + (K' ++ [y]).length) := by
        rw [len] at h2 ⊢
        rw [r_sort_46, grd_t (by exact ⟨by omega, by omega⟩), grd_t (by exact ⟨by omega, by omega⟩), if_pos (by omega), show m + ((K'.length : Int) + 1) - 1 = m + K'.length by omega, grd_t (by exact ⟨by omega, by omega⟩), y1, grd_t by1, grd_t hx, show m + ((K'.length : Int) + 1) + -1 = m + K'.length by omega, show m + ((K'.length : Int) + 1) = m + K'.length + 1 by omega]
      by_cases c : x.1 < y.1
      · rw [len] at h2 hR
        have hyR : At (RE τ) (m + K'.length + 1 + 1) R := by rw [show m + (K'.length : Int) + 1 + 1 = m + (K'.length + 1) + 1 by omega]; exact hR
        obtain ⟨τ1, p1, p2, p3⟩ := r_copy' (N := N) (τ := τ) (x1 := m + K'.length) (x2 := m + K'.length + 1) ⟨by omega, by omega⟩ ⟨by omega, by omega⟩
        obtain ⟨τ', q1, q2, q3, q4⟩ := ih K' (y :: R) τ1 (by simp at hn; omega) (RE.of (fun b j j1 j2 => by rw [p3, if_neg (by omega)]) hK.l) ⟨by
            unfold RE at hy ⊢
            rw [p3 52, p3 51, p3 50, p3 49, p3 48, p3 47, if_pos (by simp), if_pos (by simp), if_pos (by simp), if_pos (by simp), if_pos (by simp), if_pos (by simp)]
            exact hy, RE.of (fun b j j1 j2 => by rw [p3, if_neg (by omega)]) hyR⟩ (by
            unfold RE at hX ⊢
            rw [p3 52, p3 51, p3 50, p3 49, p3 48, p3 47, if_neg (by omega), if_neg (by omega), if_neg (by omega), if_neg (by omega), if_neg (by omega), if_neg (by omega)]
            exact hX) (fun e he => bK e (by simp [he])) (fun e he => by
              rcases List.mem_cons.1 he with rfl | he
              · exact c
              · exact bR e he) (List.pairwise_append.1 pK).1 (by simp only [List.length_cons]; omega)
        refine ⟨τ', ?_, fun f j => (q2 f j).trans (p2 f j), fun a j h => ?_, ?_⟩
        · rw [st, if_pos c, p1, Option.bind_some]
          exact q1
        · rw [q3 a j (by simp only [List.length_cons]; rw [len] at h; omega), p3, if_neg (by rw [len] at h; omega)]
        · rw [List.append_assoc]
          exact q4
      · obtain ⟨τ', q1, q2, q3, q4⟩ := fin (fun e he => by
          rcases List.mem_append.1 he with he | he
          · have := (List.pairwise_append.1 pK).2.2 e he y (by simp)
            omega
          · simp at he; subst he; omega)
        exact ⟨τ', by rw [st, if_neg c]; exact q1, q2, q3, q4⟩
theorem insL_srt {x : Evt} : ∀ {l : List Evt}, l.Pairwise (fun a b => a.1 ≤ b.1) → (insL ltE x l).Pairwise (fun a b => a.1 ≤ b.1)
  | [], _ => by simp [insL]
  | y :: l, h => by
    have h1 := List.pairwise_cons.1 h
    unfold insL
    split
    · rename_i c
      have c : x.1 < y.1 := of_decide_eq_true c
      refine List.pairwise_cons.2 ⟨fun z hz => ?_, h⟩
      rcases List.mem_cons.1 hz with rfl | hz
      · omega
      · have := h1.1 z hz
        omega
    · rename_i c
      have c : ¬ x.1 < y.1 := fun k => c (decide_eq_true k)
      refine List.pairwise_cons.2 ⟨fun z hz => ?_, insL_srt h1.2⟩
      rcases List.mem_cons.1 ((insL_perm ltE x l).mem_iff.1 hz) with rfl | hz
      · omega
      · exact h1.1 z hz
theorem isoA_srt : ∀ {l acc : List Evt}, acc.Pairwise (fun a b => a.1 ≤ b.1) → (isoA ltE acc l).Pairwise (fun a b => a.1 ≤ b.1)
  | [], _, h => h
  | x :: l, acc, h => by
    rw [isoA]
    exact isoA_srt (insL_srt h)
theorem sortE_srt (l : List Evt) : (sortE l).Pairwise (fun a b => a.1 ≤ b.1) := isoA_srt (by simp)
theorem r_sort_lp {m : Int} (hN : 30000 ≤ N) (h0 : 0 ≤ m) : ∀ (l : List Evt) (n : Nat) (τ : St) (K : List Evt), l.length < n → At (RE τ) m (K ++ l) → 0 < K.length → (∀ e ∈ K ++ l, i64 e.1) → K.Pairwise (fun a b => a.1 ≤ b.1) → m + (K.length + l.length) = fl τ 84 0 → fl τ 84 0 ≤ 29999 → ∃ τ', r_sort_4 N n τ m (m + K.length) = some τ' ∧ RP m τ τ' ∧ fl τ' 84 0 = fl τ 84 0 ∧ At (RE τ') m (isoA ltE K l)
  | [], n + 1, τ, K, _, ha, _, _, _, h1, h2 => by
    simp only [List.length_nil] at h1
    refine ⟨τ, ?_, RP.rf _ _, rfl, by rw [List.append_nil] at ha; exact ha⟩
    rw [r_sort_4, grd_t (by exact ⟨by omega, by omega⟩), grd_t (by exact ⟨by omega, by omega⟩), if_neg (by omega)]
  | x :: l, n + 1, τ, K, hn, ha, hk, hb, hp, h1, h2 => by
    simp only [List.length_cons] at h1 hn
    have hne : K ≠ [] := fun h => by simp [h] at hk
    obtain ⟨K', y, rfl⟩ : ∃ K' y, K = K' ++ [y] := ⟨K.dropLast, K.getLast hne, (List.dropLast_concat_getLast hne).symm⟩
    have len : ((K' ++ [y]).length : Int) = K'.length + 1 := by simp
    have hy : el τ 52 (m + K'.length) = y.1 := (ha.l.rt).1.1
    have hx := ha.rt
    rw [len] at hx h1
    have hx1 : el τ 52 (m + (K'.length + 1)) = x.1 := hx.1.1
    have bx := hb x (by simp)
    have by1 := hb y (by simp)
    have st : r_sort_4 N (n + 1) τ m (m + (K' ++ [y]).length) = if x.1 < y.1 then Option.bind (r_copy N τ (m + (K'.length + 1)) 29999) (fun r13 => r_sort_46 N (r_sort_4 N n) N r13 m (m + (K'.length + 1)) x.1 (m + (K'.length + 1))) else r_sort_91 N (r_sort_4 N n) τ m (m + (K'.length + 1)) := by
      rw [len, r_sort_4, grd_t (by exact ⟨by omega, by omega⟩), grd_t (by exact ⟨by omega, by omega⟩), if_pos (by omega), grd_t (by exact ⟨by omega, by omega⟩), bnd, hx1, show m + ((K'.length : Int) + 1) - 1 = m + K'.length by omega, grd_t (by exact ⟨by omega, by omega⟩), hy, grd_t by1, grd_t bx]
    by_cases c : x.1 < y.1
    · obtain ⟨τ1, p1, p2, p3⟩ := r_copy' (N := N) (τ := τ) (x1 := m + (K'.length + 1)) (x2 := 29999) ⟨by omega, by omega⟩ ⟨by omega, by omega⟩
      have hX : RE τ1 29999 x := by
        have := hx.1
        unfold RE at this ⊢
        rw [p3 52, p3 51, p3 50, p3 49, p3 48, p3 47, if_pos (by simp), if_pos (by simp), if_pos (by simp), if_pos (by simp), if_pos (by simp), if_pos (by simp)]
        exact this
      obtain ⟨τ2, q1, q2, q3, q4⟩ := r_ins_lp (N := N) (rec4 := r_sort_4 N n) (m := m) (x2 := m + (K'.length + 1)) (x := x) bx h0 N (K' ++ [y]) [] τ1 (by simp; omega) (RE.of (fun b j j1 j2 => by rw [p3, if_neg (by rw [len] at j2; omega)]) ha.l) trivial hX (fun e he => hb e (List.mem_append_left _ he)) (by simp) hp (by simp; omega)
      rw [len] at q1 q3
      rw [List.append_nil] at q4
      have il := insL_len ltE x (K' ++ [y])
      have il2 : ((insL ltE x (K' ++ [y])).length : Int) = K'.length + 1 + 1 := by rw [il]; simp
      obtain ⟨τ3, z1, z2, z3, z4⟩ := r_sort_lp (m := m) hN h0 l n τ2 (insL ltE x (K' ++ [y])) (by omega) (At.app q4 (by
        rw [il2]
        refine RE.of (fun b j j1 j2 => ?_) (show At (RE τ) (m + (K'.length + 1 + 1)) l by
          have := hx.2
          rw [show m + ((K'.length : Int) + 1) + 1 = m + (K'.length + 1 + 1) by omega] at this
          exact this)
        rw [q3 b j (by simp only [List.length_nil]; omega), p3, if_neg (by omega)])) (by omega) (fun e he => by
          rcases List.mem_append.1 he with he | he
          · rcases List.mem_cons.1 ((insL_perm ltE x _).mem_iff.1 he) with rfl | he
            · exact bx
            · exact hb e (List.mem_append_left _ he)
          · exact hb e (by simp [he])) (insL_srt hp) (by rw [il2, q2, p2]; omega) (by rw [q2, p2]; exact h2)
      refine ⟨τ3, ?_, RP.tr ⟨fun f i _ => (q2 f i).trans (p2 f i), fun a j h => ?_, fun a j h => ?_⟩ z2 (Int.le_refl _), ?_, z4⟩
      · rw [st, if_pos c, p1, Option.bind_some, q1]
        rw [il2] at z1
        rw [show m + ((K'.length : Int) + 1) + 1 = m + (K'.length + 1 + 1) by omega]
        exact z1
      · rw [q3 a j (by omega), p3, if_neg (by omega)]
      · rw [q3 a j (by omega), p3, if_neg (by omega)]
      · rw [z3, q2, p2]
    · have hpx : ((K' ++ [y]) ++ [x]).Pairwise (fun a b => a.1 ≤ b.1) := List.pairwise_append.2 ⟨hp, by simp, fun a hu b hv => by
        have hv := List.mem_singleton.1 hv
        rw [hv]
        rcases List.mem_append.1 hu with hu | hu
        · have := (List.pairwise_append.1 hp).2.2 a hu y (by simp)
          omega
        · have hu := List.mem_singleton.1 hu
          rw [hu]; omega⟩
      have hi : insL ltE x (K' ++ [y]) = (K' ++ [y]) ++ [x] := insL_end (fun z hz => decide_eq_false (by
        have := (List.pairwise_append.1 hpx).2.2 z hz x (by simp)
        omega))
      obtain ⟨τ3, z1, z2, z3, z4⟩ := r_sort_lp (m := m) hN h0 l n τ ((K' ++ [y]) ++ [x]) (by omega) (by rw [List.append_assoc]; exact ha) (by simp) (by rw [List.append_assoc]; exact hb) hpx (by simp; omega) h2
      refine ⟨τ3, ?_, z2, z3, ?_⟩
      · rw [st, if_neg c, r_sort_91]
        rw [show m + (((K' ++ [y]) ++ [x]).length : Int) = m + (K'.length + 1) + 1 by simp; omega] at z1
        exact z1
      · rw [isoA, hi]
        exact z4
theorem r_sort' {m : Int} {τ : St} {l : List Evt} (hN : 30000 ≤ N) (h0 : 0 ≤ m) (ha : At (RE τ) m l) (hb : ∀ e ∈ l, i64 e.1) (h1 : m + l.length = fl τ 84 0) (h2 : fl τ 84 0 ≤ 29999) : ∃ τ', r_sort N τ m = some τ' ∧ RP m τ τ' ∧ fl τ' 84 0 = fl τ 84 0 ∧ At (RE τ') m (sortE l) := by
  match l with
  | [] =>
    simp only [List.length_nil] at h1
    refine ⟨τ, ?_, RP.rf _ _, rfl, trivial⟩
    rw [r_sort, bnd]
    cases N with
    | zero => omega
    | succ n => rw [r_sort_4, grd_t (by exact ⟨by omega, by omega⟩), grd_t (by exact ⟨by omega, by omega⟩), if_neg (by omega)]
  | x :: l =>
    simp only [List.length_cons] at h1
    obtain ⟨τ', q1, q2, q3, q4⟩ := r_sort_lp (N := N) (m := m) hN h0 l N τ [x] (by omega) (by simpa using ha) (by simp) (by simpa using hb) (by simp) (by simp; omega) h2
    refine ⟨τ', ?_, q2, q3, ?_⟩
    · rw [r_sort, bnd]
      simpa using q1
    · have : sortE (x :: l) = isoA ltE [x] l := rfl
      rw [this]; exact q4
end RV1
