/-! names of functions -/
def fnm : List (List Int) := [[102, 97, 115, 116], [115, 108, 111, 119], [101, 97, 114, 108, 121], [108, 97, 116, 101], [114, 101, 118], [101, 118, 101, 114, 121], [119, 104, 101, 110], [111, 102, 102], [111, 118, 101, 114], [105, 116, 101, 114], [112, 108, 121], [99, 104, 117, 110, 107], [105, 110, 115, 105, 100, 101], [114, 111, 116], [115, 116, 114, 117, 99, 116], [109, 97, 115, 107], [100, 114, 111, 112], [107, 101, 101, 112], [115, 111, 109, 101], [119, 105, 116, 104, 105, 110], [115, 113, 117, 101, 101, 122, 101]]
def FNc (σ : St) : Prop := At (fun i (w : List Int) => el σ 45 i = n37 (w.map ncd).reverse) 0 fnm
def FNr (τ : St) : Prop := At (fun i (b : Int) => el τ 96 i = b) 0 (fnm.flatMap (fun w => w ++ [32]))
theorem ncd_inj {a b : Int} (h : isNc a) (k : isNc b) (e : ncd a = ncd b) : a = b := by
  unfold ncd at e
  split at e <;> split at e <;> omega
/-- a word that stands on the tape -/
theorem wrd_at {τ : St} {k : Int} : ∀ (e : Nat) (w : List Int), (∀ b ∈ w, isNc b) → (∀ i, k ≤ i → i < k + e → isNc (bA τ i)) → ((w.map ncd).reverse = cdr τ k e ↔ w.length = e ∧ At (fun i (b : Int) => bA τ i = b) k w) := by
  intro e
  induction e with
  | zero =>
    intro w _ _
    constructor
    · intro h
      have : w = [] := by
        have := congrArg List.length h
        simp [cdr] at this
        exact this
      subst this
      exact ⟨rfl, trivial⟩
    · intro h
      have : w = [] := List.length_eq_zero_iff.mp h.1
      subst this
      rfl
  | succ e ih =>
    intro w hw hA
    rcases List.eq_nil_or_concat w with rfl | ⟨w', b, rfl⟩
    · constructor
      · intro h; exact absurd (congrArg List.length h) (by simp [cdr])
      · intro h; simp at h
    · have hw' : ∀ x ∈ w', isNc x := fun x hx => hw x (by simp [hx])
      have hb : isNc b := hw b (by simp)
      have ih' := ih w' hw' (fun i a c => hA i a (by omega))
      have hk := hA (k + e) (by omega) (by omega)
      rw [List.concat_eq_append, List.map_append, List.reverse_append]
      show ncd b :: (w'.map ncd).reverse = ncd (bA τ (k + e)) :: cdr τ k e ↔ _
      constructor
      · intro h
        have h1 : ncd b = ncd (bA τ (k + e)) := (List.cons.inj h).1
        have h2 := ih'.mp (List.cons.inj h).2
        refine ⟨by rw [List.length_append]; simp [h2.1], At.snoc h2.2 ?_⟩
        rw [h2.1]; exact (ncd_inj hb hk h1).symm
      · intro ⟨h1, h2⟩
        rw [List.length_append] at h1
        have l1 : w'.length = e := by simpa using h1
        have h3 := h2.l
        have h4 := h2.rt
        rw [l1] at h4
        have h5 : bA τ (k + e) = b := h4.1
        rw [ih'.mpr ⟨l1, h3⟩, h5]
theorem fnm_nc : ∀ w ∈ fnm, ∀ b ∈ w, isNc b := by decide
theorem fnm_nd : fnm.Pairwise (fun a b => a ≠ b) := by decide
theorem fnm_len : ∀ w ∈ fnm, w.length ≤ 7 := by decide
def mtc (τ : St) : List Int → Int → Bool
  | [], _ => true
  | b :: w, k => decide (bA τ k = b) && mtc τ w (k + 1)
theorem mtc_at {τ : St} : ∀ {w : List Int} {k : Int}, mtc τ w k = true ↔ At (fun i (b : Int) => bA τ i = b) k w
  | [], _ => ⟨fun _ => trivial, fun _ => rfl⟩
  | b :: w, k => by
    show (decide (bA τ k = b) && mtc τ w (k + 1)) = true ↔ (bA τ k = b) ∧ At _ (k + 1) w
    rw [Bool.and_eq_true, mtc_at, decide_eq_true_eq]
def fidx (nm : Int) : List (List Int) → Int → Int
  | [], _ => -1
  | w :: ws, f => if n37 (w.map ncd).reverse = nm then f else fidx nm ws (f + 1)
theorem fidx_b (nm : Int) : ∀ (ws : List (List Int)) (f : Int), fidx nm ws f = -1 ∨ (f ≤ fidx nm ws f ∧ fidx nm ws f < f + ws.length)
  | [], _ => Or.inl rfl
  | w :: ws, f => by
    show (if _ then f else fidx nm ws (f + 1)) = -1 ∨ _
    have e : fidx nm (w :: ws) f = if n37 (w.map ncd).reverse = nm then f else fidx nm ws (f + 1) := rfl
    rw [e]
    simp only [List.length_cons]
    split
    · exact Or.inr (by omega)
    · rcases fidx_b nm ws (f + 1) with h | h
      · exact Or.inl h
      · exact Or.inr (by omega)
theorem fidx_no {nm : Int} : ∀ {ws : List (List Int)} {f : Int}, (∀ w ∈ ws, n37 (w.map ncd).reverse ≠ nm) → fidx nm ws f = -1
  | [], _, _ => rfl
  | w :: ws, f, h => by
    show (if _ then f else fidx nm ws (f + 1)) = -1
    rw [if_neg (h w (by simp))]
    exact fidx_no (fun x hx => h x (by simp [hx]))
section FNm
variable {N : Nat} {π : Sh}
theorem c_fnOf {σ : St} {nm : Int} (hn : i64 nm) : ∀ (ws : List (List Int)) (n : Nat) (f : Int), ws.length < n → 0 ≤ f → f + ws.length = 21 → At (fun i (w : List Int) => el σ 45 i = n37 (w.map ncd).reverse) f ws → (∀ w ∈ ws, i64 (n37 (w.map ncd).reverse)) → Rd_functionOf_2 N π n σ nm f = some (σ, fidx nm ws f) := by
  intro ws
  induction ws with
  | nil =>
    intro n f hn' f0 f1 _ _
    obtain ⟨n, rfl⟩ : ∃ q, n = q + 1 := ⟨n - 1, by omega⟩
    simp only [List.length_nil] at f1
    rw [Rd_functionOf_2, grd_t (by exact ⟨by omega, by omega⟩), if_neg (by omega)]; rfl
  | cons w ws ih =>
    intro n f hn' f0 f1 hA hi
    obtain ⟨n, rfl⟩ : ∃ q, n = q + 1 := ⟨n - 1, by omega⟩
    simp only [List.length_cons] at f1 hn'
    have e : el σ 45 f = n37 (w.map ncd).reverse := hA.1
    rw [Rd_functionOf_2, grd_t (by exact ⟨by omega, by omega⟩), if_pos (by omega), grd_t (by exact ⟨by omega, by omega⟩), e, grd_t (hi w (by simp)), grd_t hn]
    show _ = some (σ, if _ then f else fidx nm ws (f + 1))
    by_cases c : n37 (w.map ncd).reverse = nm
    · rw [if_pos c, if_pos c]
    · rw [if_neg c, if_neg c]
      exact ih n (f + 1) (by omega) (by omega) (by omega) hA.2 (fun x hx => hi x (by simp [hx]))
/-- one word of the reference's row -/
theorem r_fn18 {σ τ : St} (hT : RTp σ τ) {k : Int} {e : Nat} (h4 : fl τ 4 0 = k) (h5 : fl τ 5 0 = k + e) (k0 : 0 ≤ k) (he : k + e ≤ fl τ 1 0) (rec : St → Int → Int → Int → Option (St × Int)) (frm x2 f : Int) (f0 : 0 ≤ frm) : ∀ (w : List Int) (n : Nat) (m : Int) (is : Int), w.length < n → 0 ≤ m → frm + m + w.length < 113 → (∀ b ∈ w, isNc b) → At (fun i (b : Int) => el τ 96 i = b) (frm + m) (w ++ [32]) → (is = 0 ∨ is = 1) → r_functionHere_18 N rec n τ frm x2 f m is = rec τ (frm + (m + w.length + 1)) (if is = 1 ∧ m + w.length = e ∧ mtc τ w (k + m) = true then f else x2) (f + 1) := by
  have size := hT.2.2.1
  intro w
  induction w with
  | nil =>
    intro n m is hn m0 hf _ hA his
    obtain ⟨n, rfl⟩ : ∃ q, n = q + 1 := ⟨n - 1, by omega⟩
    have e32 : el τ 96 (frm + m) = 32 := hA.1
    simp only [List.length_nil] at hf
    rw [r_functionHere_18, grd_t (by exact ⟨by omega, by omega⟩), e32, grd_t (by decide), if_pos rfl, grd_t (by rcases his with rfl | rfl <;> decide)]
    have z : m + ((([] : List Int).length : Nat) : Int) = m := by simp
    rw [z]
    rcases his with rfl | rfl
    · rw [if_pos rfl, if_neg (by rintro ⟨h, _⟩; omega), r_functionHere_94, bnd]
    · rw [if_neg (by decide), grd_t (by exact ⟨by omega, by omega⟩), h4, h5, show k + (e : Int) - k = e by omega, grd_t (by exact ⟨by omega, by omega⟩)]
      by_cases c : m = e
      · rw [if_pos c, if_pos ⟨rfl, c, rfl⟩, r_functionHere_94, bnd]
      · rw [if_neg c, if_neg (fun h => c h.2.1), r_functionHere_94, bnd]
  | cons b w ih =>
    intro n m is hn m0 hf hw hA his
    obtain ⟨n, rfl⟩ : ∃ q, n = q + 1 := ⟨n - 1, by omega⟩
    simp only [List.length_cons] at hn hf
    have eb : el τ 96 (frm + m) = b := hA.1
    have nb := hw b (by simp)
    have b32 : b ≠ 32 := by rcases nb with h | h <;> omega
    have ib : i32 b := by rcases nb with h | h <;> exact ⟨by omega, by omega⟩
    have hA' : At (fun i (b : Int) => el τ 96 i = b) (frm + (m + 1)) (w ++ [32]) := by
      have := hA.2
      rwa [show frm + m + 1 = frm + (m + 1) by omega] at this
    have z : m + (((b :: w).length : Nat) : Int) = m + 1 + w.length := by simp only [List.length_cons]; omega
    have step : ∀ is' : Int, (is' = 0 ∨ is' = 1) → r_functionHere_18 N rec n τ frm x2 f (m + 1) is' = rec τ (frm + (m + 1 + w.length + 1)) (if is' = 1 ∧ m + 1 + w.length = e ∧ mtc τ w (k + (m + 1)) = true then f else x2) (f + 1) := fun is' h => ih n (m + 1) is' (by omega) (by omega) (by omega) (fun x hx => hw x (by simp [hx])) hA' h
    have bb := bA_rg hT (k + m)
    rw [z, r_functionHere_18, grd_t (by exact ⟨by omega, by omega⟩), eb, grd_t ib, if_neg b32, grd_t (by rcases his with rfl | rfl <;> decide)]
    have mc : mtc τ (b :: w) (k + m) = (decide (bA τ (k + m) = b) && mtc τ w (k + (m + 1))) := by show (decide (bA τ (k + m) = b) && mtc τ w (k + m + 1)) = _; rw [show k + m + 1 = k + (m + 1) by omega]
    rw [mc]
    rcases his with rfl | rfl
    · rw [if_pos rfl, r_functionHere_64, r_functionHere_65, step 0 (Or.inl rfl), if_neg (by rintro ⟨h, _⟩; omega), if_neg (by rintro ⟨h, _⟩; omega)]
    · rw [if_neg (by decide), h4, rr_byteAt hT (by exact ⟨by omega, by omega⟩), Option.bind_some, grd_t (by exact ⟨by omega, by omega⟩), eb, grd_t ib]
      by_cases c : bA τ (k + m) = b
      · rw [if_pos c, r_functionHere_65, step 1 (Or.inr rfl)]
        simp only [c, decide_true, Bool.true_and]
      · rw [if_neg c, r_functionHere_64, r_functionHere_65, step 0 (Or.inl rfl), if_neg (by rintro ⟨h, _⟩; omega), if_neg (by simp [c])]
def lidx (nm : Int) : List (List Int) → Int → Int → Int
  | [], _, x => x
  | w :: ws, f, x => lidx nm ws (f + 1) (if n37 (w.map ncd).reverse = nm then f else x)
theorem lidx_no {nm : Int} : ∀ {ws : List (List Int)} {f x : Int}, (∀ w ∈ ws, n37 (w.map ncd).reverse ≠ nm) → lidx nm ws f x = x
  | [], _, _, _ => rfl
  | w :: ws, f, x, h => by
    show lidx nm ws (f + 1) (if _ then f else x) = x
    rw [if_neg (h w (by simp))]
    exact lidx_no (fun y hy => h y (by simp [hy]))
theorem lidx_eq {nm : Int} : ∀ {ws : List (List Int)} {f : Int}, (∀ w ∈ ws, ∀ b ∈ w, isNc b) → ws.Pairwise (fun a b => a ≠ b) → lidx nm ws f (-1) = fidx nm ws f
  | [], _, _, _ => rfl
  | w :: ws, f, h, hp => by
    show lidx nm ws (f + 1) (if _ then f else -1) = if _ then f else fidx nm ws (f + 1)
    by_cases c : n37 (w.map ncd).reverse = nm
    · rw [if_pos c, if_pos c]
      refine lidx_no (fun y hy e => ?_)
      have ok : ∀ z : List Int, (∀ b ∈ z, isNc b) → okN (z.map ncd).reverse := fun z hz x hx => by
        rw [List.mem_reverse] at hx
        obtain ⟨q, q1, rfl⟩ := List.mem_map.mp hx
        exact ncd_b (hz q q1)
      have e1 := n37_inj (ok w (h w (by simp))) (ok y (h y (by simp [hy]))) (c.trans e.symm)
      have e2 : w.map ncd = y.map ncd := by
        have := congrArg List.reverse e1
        rwa [List.reverse_reverse, List.reverse_reverse] at this
      have e3 : w = y := by
        have : ∀ (a b : List Int), (∀ x ∈ a, isNc x) → (∀ x ∈ b, isNc x) → a.map ncd = b.map ncd → a = b := by
          intro a
          induction a with
          | nil => intro b _ _ h; cases b with | nil => rfl | cons _ _ => simp at h
          | cons x a iha =>
            intro b ha hb h
            cases b with
            | nil => simp at h
            | cons y b =>
              simp only [List.map_cons, List.cons.injEq] at h
              rw [ncd_inj (ha x (by simp)) (hb y (by simp)) h.1, iha b (fun z hz => ha z (by simp [hz])) (fun z hz => hb z (by simp [hz])) h.2]
        exact this w y (h w (by simp)) (h y (by simp [hy])) e2
      exact (List.rel_of_pairwise_cons hp hy) e3
    · rw [if_neg c, if_neg c]
      exact lidx_eq (fun y hy => h y (by simp [hy])) hp.of_cons
theorem r_fn6 {σ τ : St} (hN : 3000 ≤ N) (hT : RTp σ τ) {k : Int} {e : Nat} (h4 : fl τ 4 0 = k) (h5 : fl τ 5 0 = k + e) (k0 : 0 ≤ k) (he : k + e ≤ fl τ 1 0) (hA : ∀ i, k ≤ i → i < k + e → isNc (bA τ i)) : ∀ (ws : List (List Int)) (n : Nat) (frm x2 f : Int), ws.length < n → 0 ≤ frm → 0 ≤ f → f + ws.length = 21 → (∀ w ∈ ws, (∀ b ∈ w, isNc b) ∧ w.length ≤ 7) → At (fun i (b : Int) => el τ 96 i = b) frm (ws.flatMap (fun w => w ++ [32])) → frm + (ws.flatMap (fun w => w ++ [32])).length ≤ 113 → r_functionHere_6 N n τ frm x2 f = some (τ, lidx (n37 (cdr τ k e)) ws f x2) := by
  intro ws
  induction ws with
  | nil =>
    intro n frm x2 f hn f0 f1 f2 _ _ _
    obtain ⟨n, rfl⟩ : ∃ q, n = q + 1 := ⟨n - 1, by omega⟩
    simp only [List.length_nil] at f2
    rw [r_functionHere_6, grd_t (by exact ⟨by omega, by omega⟩), if_pos (by omega)]; rfl
  | cons w ws ih =>
    intro n frm x2 f hn f0 f1 f2 hw hB hl
    obtain ⟨n, rfl⟩ : ∃ q, n = q + 1 := ⟨n - 1, by omega⟩
    simp only [List.length_cons] at hn f2
    rw [List.flatMap_cons] at hB hl
    rw [List.length_append, List.length_append] at hl
    simp only [List.length_cons, List.length_nil] at hl
    obtain ⟨w1, w2⟩ := hw w (by simp)
    have q := r_fn18 (N := N) hT h4 h5 k0 he (r_functionHere_6 N n) frm x2 f f0 w N 0 1 (by omega) (by omega) (by omega) w1 (by rw [Int.add_zero]; exact hB.l) (Or.inr rfl)
    have rest := hB.rt
    rw [List.length_append] at rest
    simp only [List.length_cons, List.length_nil] at rest
    rw [r_functionHere_6, grd_t (by exact ⟨by omega, by omega⟩), if_neg (by omega), q, show frm + (0 + (w.length : Int) + 1) = frm + ((w.length + (0 + 1) : Nat) : Int) by omega, ih n _ _ (f + 1) (by omega) (by omega) (by omega) (by omega) (fun y hy => hw y (by simp [hy])) rest (by omega)]
    show some (τ, lidx _ ws (f + 1) _) = some (τ, lidx _ ws (f + 1) _)
    have iff : (n37 (w.map ncd).reverse = n37 (cdr τ k e)) ↔ (1 = (1 : Int) ∧ (0 : Int) + w.length = e ∧ mtc τ w (k + 0) = true) := by
      have ok : okN (w.map ncd).reverse := fun x hx => by
        rw [List.mem_reverse] at hx
        obtain ⟨q, q1, rfl⟩ := List.mem_map.mp hx
        exact ncd_b (w1 q q1)
      have wa := wrd_at e w w1 hA
      rw [Int.add_zero, mtc_at]
      constructor
      · intro h
        obtain ⟨a, b⟩ := wa.mp (n37_inj ok (cdr_ok hA) h)
        exact ⟨rfl, by omega, b⟩
      · rintro ⟨_, a, b⟩
        rw [wa.mpr ⟨by omega, b⟩]
    by_cases c : n37 (w.map ncd).reverse = n37 (cdr τ k e)
    · rw [if_pos c, if_pos (iff.mp c)]
    · rw [if_neg c, if_neg (fun h => c (iff.mpr h))]
theorem fnm_i64 : ∀ w ∈ fnm, i64 (n37 (w.map ncd).reverse) := by decide
/-- both know a function by its name -/
theorem both_fn {σ τ : St} (hN : 3000 ≤ N) (hT : RTp σ τ) (hC : FNc σ) (hR : FNr τ) {k : Int} {e : Nat} (h4 : fl τ 4 0 = k) (h5 : fl τ 5 0 = k + e) (k0 : 0 ≤ k) (he : k + e ≤ fl τ 1 0) (h12 : e ≤ 12) (hA : ∀ i, k ≤ i → i < k + e → isNc (bA τ i)) : ∃ f : Int, (f = -1 ∨ (0 ≤ f ∧ f ≤ 20)) ∧ Rd_functionOf N π σ (n37 (cdr τ k e)) = some (σ, f) ∧ r_functionHere N τ = some (τ, f) := by
  have ok := cdr_ok hA
  have lt := n37_lt 12 ok (by rw [cdr_len]; exact h12)
  have ge := n37_0 ok
  have p12 : (37 : Int) ^ 12 = 6582952005840035281 := by decide
  refine ⟨fidx (n37 (cdr τ k e)) fnm 0, ?_, ?_, ?_⟩
  · rcases fidx_b (n37 (cdr τ k e)) fnm 0 with h | h
    · exact Or.inl h
    · have : (fnm.length : Int) = 21 := rfl
      exact Or.inr (by omega)
  · rw [Rd_functionOf]
    exact c_fnOf ⟨by omega, by omega⟩ fnm N 0 (by have : fnm.length = 21 := rfl; omega) (by omega) rfl hC fnm_i64
  · rw [r_functionHere, r_fn6 hN hT h4 h5 k0 he hA fnm N 0 (-1) 0 (by have : fnm.length = 21 := rfl; omega) (by omega) (by omega) rfl (fun w hw => ⟨fnm_nc w hw, fnm_len w hw⟩) hR (by decide), lidx_eq fnm_nc fnm_nd]
end FNm
