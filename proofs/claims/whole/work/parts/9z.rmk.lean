/-! the reference makes a pattern of kids -/
def aKs (N : Nat) : List Kid → St → Option St
  | [], τ => some τ
  | k :: ks, τ => Option.bind (r_addKid N τ k.1 k.2.1 k.2.2) (fun r => aKs N ks r)
def rMk (N : Nat) (τ : St) (q K a b c d place : Int) (ks : List Kid) : Option St := Option.bind (r_opens N (sf τ 68 0 q) K a b c d) (fun r => Option.bind (aKs N ks r) (fun r => r_made N r place))
def rCM (N : Nat) (τ : St) (bs q K a b c d place : Int) (ks : List Kid) : Option St := Option.bind (r_counts N τ place bs) (fun r => if fl r 11 0 = 0 then rMk N r q K a b c d place ks else some r)
section RM
variable {N : Nat}
theorem aKs' {p K a b c d : Int} : ∀ (ks l : List Kid) (τ : St), OPN τ p K a b c d l → l.length + ks.length ≤ 2000 → fl τ 61 0 + ks.length ≤ 210000 → (∀ k ∈ ks, KOK τ k ∧ 0 ≤ k.1 ∧ k.1 < 103000) → ∃ τ', aKs N ks τ = some τ' ∧ OPN τ' p K a b c d (l ++ ks) ∧ (∀ (f : Nat) (i : Int), f ≠ 61 → fl τ' f i = fl τ f i) ∧ fl τ' 61 0 = fl τ 61 0 + ks.length ∧ ∀ x j : Int, ¬ ((x = 57 ∨ x = 58) ∧ fl τ 61 0 ≤ j) → ¬ (x = 64 ∧ j = p) → el τ' x j = el τ x j := by
  intro ks
  induction ks with
  | nil => intro l τ h _ _ _; exact ⟨τ, rfl, by rw [List.append_nil]; exact h, fun _ _ _ => rfl, by simp, fun _ _ _ _ => rfl⟩
  | cons k ks ih =>
    intro l τ h h1 h2 h3
    simp only [List.length_cons] at h1 h2
    obtain ⟨e, p1, p2, ⟨a1, a2, a3, a4⟩, a5, a6⟩ := id h
    have kk := h3 k (by simp)
    obtain ⟨t1, ht1⟩ : ∃ t1, t1 = se (sf (se (se τ 58 (fl τ 61 0) k.1) 57 (fl τ 61 0) (k.2.1 + 32 * k.2.2)) 61 0 (fl τ 61 0 + 1)) 64 (fl τ 48 0) (el τ 64 (fl τ 48 0) + 1) := ⟨_, rfl⟩
    have fe : ∀ (f : Nat) (i : Int), f ≠ 61 → fl t1 f i = fl τ f i := fun f i hf => by rw [ht1, fl_se, fl_sfn _ _ _ _ hf]; rfl
    have f61 : fl t1 61 0 = fl τ 61 0 + 1 := by rw [ht1, fl_se, fl_sfs]
    have ee : ∀ x j : Int, ¬ ((x = 57 ∨ x = 58) ∧ j = fl τ 61 0) → ¬ (x = 64 ∧ j = p) → el t1 x j = el τ x j := fun x j b1 b2 => by
      rw [ht1, el_se, if_neg (by omega), el_sf, el_se, if_neg (by omega), el_se, if_neg (by omega)]
    have e64 : el t1 64 p = el τ 64 p + 1 := by rw [ht1, e, el_ses]
    have e57 : el t1 57 (fl τ 61 0) = k.2.1 + 32 * k.2.2 := by rw [ht1, el_sen _ _ _ _ (by decide), el_sf, el_ses]
    have e58 : el t1 58 (fl τ 61 0) = k.1 := by rw [ht1, el_sen _ _ _ _ (by decide), el_sf, el_sen _ _ _ _ (by decide), el_ses]
    have kok : ∀ q : Kid, KOK τ q → KOK t1 q := fun q hq => by
      obtain ⟨b1, b2, b3⟩ := hq
      refine ⟨?_, by rw [ee 59 _ (by omega) (by omega)]; exact b2, b3⟩
      have g1 : gr t1 q.1 = gr τ q.1 := ee 63 _ (by omega) (by omega)
      have g2 : cw t1 q.1 = cw τ q.1 := ee 62 _ (by omega) (by omega)
      have g3 : rc t1 q.1 = rc τ q.1 := ee 61 _ (by omega) (by omega)
      have g4 : wk t1 q.1 = wk τ q.1 := ee 60 _ (by omega) (by omega)
      unfold rng
      rw [g1, g2, g3, g4]; exact b1
    have o1 : OPN t1 p K a b c d (l ++ [k]) := by
      have ll : (l ++ [k]).length = l.length + 1 := by rw [List.length_append]; rfl
      refine ⟨by rw [fe 48 0 (by decide)]; exact e, p1, by rw [ee 70 _ (by omega) (by omega), ee 69 _ (by omega) (by omega), ee 68 _ (by omega) (by omega), ee 67 _ (by omega) (by omega), ee 66 _ (by omega) (by omega)]; exact p2, ?_, by omega, ?_⟩
      · rw [ee 65 _ (by omega) (by omega), e64, f61, ll]; exact ⟨a1, by omega, by omega, by omega⟩
      · rw [ee 65 _ (by omega) (by omega)]
        refine At.snoc (a6.mono (fun i q i0 i1 _ hq => ?_)) ?_
        · refine ⟨?_, kok q hq.2⟩
          rw [ee 58 _ (by omega) (by omega), ee 57 _ (by omega) (by omega)]; exact hq.1
        · rw [← a2, a4]
          exact ⟨⟨e58, e57, kk.2.1, kk.2.2⟩, kok k kk.1⟩
    obtain ⟨τ', q1, q2, q3, q4, q5⟩ := ih (l ++ [k]) t1 o1 (by rw [List.length_append]; simp only [List.length_cons, List.length_nil]; omega) (by omega) (fun x hx => ⟨kok x (h3 x (by simp [hx])).1, (h3 x (by simp [hx])).2⟩)
    refine ⟨τ', ?_, by rw [List.append_assoc] at q2; exact q2, fun f i hf => (q3 f i hf).trans (fe f i hf), by simp only [List.length_cons]; omega, fun x j b1 b2 => (q5 x j (by omega) b2).trans (ee x j (by omega) b2)⟩
    show Option.bind (r_addKid N τ k.1 k.2.1 k.2.2) _ = _
    rw [r_addKid, grd_t (by exact ⟨by omega, by omega⟩), grd_t (by rw [← e]; exact ⟨p1.1, p1.2⟩), ← ht1, Option.bind_some, q1]
theorem rMk0 {τ : St} {q K a b c d place : Int} {ks : List Kid} (h48 : 0 ≤ fl τ 48 0 ∧ fl τ 48 0 < 103000) (h61 : 0 ≤ fl τ 61 0 ∧ fl τ 61 0 + ks.length ≤ 210000) (hl : ks.length ≤ 2000) (hk : ∀ k ∈ ks, KOK τ k ∧ 0 ≤ k.1 ∧ k.1 < fl τ 48 0) : ∃ τ1, rMk N τ q K a b c d place ks = r_made N τ1 place ∧ OPN τ1 (fl τ 48 0) K a b c d ks ∧ (∀ (f : Nat) (i : Int), f ≠ 61 → f ≠ 68 → fl τ1 f i = fl τ f i) ∧ fl τ1 68 0 = q ∧ fl τ1 61 0 = fl τ 61 0 + ks.length ∧ ∀ x j : Int, ¬ ((x = 57 ∨ x = 58) ∧ fl τ 61 0 ≤ j) → ¬ (64 ≤ x ∧ x ≤ 70 ∧ j = fl τ 48 0) → el τ1 x j = el τ x j := by
  obtain ⟨p, hp⟩ : ∃ p, p = fl τ 48 0 := ⟨_, rfl⟩
  obtain ⟨t0, ht0⟩ : ∃ t0, t0 = se (se (se (se (se (se (se (sf τ 68 0 q) 70 p K) 69 p a) 68 p b) 67 p c) 66 p d) 65 p (fl τ 61 0)) 64 p 0 := ⟨_, rfl⟩
  have g48 : fl (sf τ 68 0 q) 48 0 = p := by rw [fl_sfn _ _ _ _ (by decide)]; exact hp.symm
  have g61 : fl (sf τ 68 0 q) 61 0 = fl τ 61 0 := fl_sfn _ _ _ _ (by decide)
  have op : r_opens N (sf τ 68 0 q) K a b c d = some t0 := by
    rw [r_opens, g48, g61, grd_t (by exact ⟨by omega, by omega⟩), ht0]
  have fe : ∀ (f : Nat) (i : Int), fl t0 f i = fl (sf τ 68 0 q) f i := fun f i => by rw [ht0]; rfl
  have ee : ∀ x j : Int, ¬ (64 ≤ x ∧ x ≤ 70 ∧ j = p) → el t0 x j = el τ x j := fun x j b => by
    rw [ht0, el_se, if_neg (by omega), el_se, if_neg (by omega), el_se, if_neg (by omega), el_se, if_neg (by omega), el_se, if_neg (by omega), el_se, if_neg (by omega), el_se, if_neg (by omega)]; rfl
  have kok : ∀ x : Kid, KOK τ x → KOK t0 x := fun x hx => by
    obtain ⟨b1, b2, b3⟩ := hx
    refine ⟨?_, by rw [ee 59 _ (by omega)]; exact b2, b3⟩
    have g1 : gr t0 x.1 = gr τ x.1 := ee 63 _ (by omega)
    have g2 : cw t0 x.1 = cw τ x.1 := ee 62 _ (by omega)
    have g3 : rc t0 x.1 = rc τ x.1 := ee 61 _ (by omega)
    have g4 : wk t0 x.1 = wk τ x.1 := ee 60 _ (by omega)
    unfold rng
    rw [g1, g2, g3, g4]; exact b1
  have o0 : OPN t0 p K a b c d [] := by
    refine ⟨by rw [fe, g48], by omega, ?_, ?_, by simp, trivial⟩
    · rw [ht0]
      simp only [el_se]
      refine ⟨?_, ?_, ?_, ?_, ?_⟩ <;> simp
    · rw [fe, g61, ht0]
      simp only [el_se]
      simp
      omega
  obtain ⟨τ1, q1, q2, q3, q4, q5⟩ := aKs' (N := N) ks [] t0 o0 (by simpa using hl) (by rw [fe, g61]; omega) (fun k hk' => ⟨kok k (hk k hk').1, (hk k hk').2.1, by have := (hk k hk').2.2; omega⟩)
  refine ⟨τ1, ?_, by rw [← hp]; simpa using q2, fun f i h1 h2 => (q3 f i h1).trans ((fe f i).trans (fl_sfn _ _ _ _ h2)), by rw [q3 68 0 (by decide), fe, fl_sfs], by rw [q4, fe, g61], fun x j b1 b2 => (q5 x j (by rw [fe, g61]; exact b1) (by omega)).trans (ee x j (by omega))⟩
  rw [rMk, op, Option.bind_some, q1, Option.bind_some]
theorem r_counts_b {place bs : Int} (h70 : Int) : ∀ (m n : Nat) (τ : St) (i : Int), m < n → bs - i = m → 0 ≤ i → bs ≤ 2000 → (0 ≤ fl τ 70 0 ∧ fl τ 70 0 ≤ 12) → fl τ 11 0 = 0 → (0 ≤ fl τ 64 0 ∧ fl τ 64 0 ≤ 200) → ∃ τ', r_counts_2 N n τ place bs i = some τ' ∧ (∀ (f : Nat) (x : Int), f ≠ 11 → f ≠ 12 → f ≠ 64 → fl τ' f x = fl τ f x) ∧ (∀ a x, el τ' a x = el τ a x) ∧ ((fl τ 64 0 + m ≤ 200 ∧ fl τ' 64 0 = fl τ 64 0 + m ∧ fl τ' 11 0 = 0 ∧ fl τ' 12 0 = fl τ 12 0) ∨ (200 < fl τ 64 0 + m ∧ fl τ' 64 0 = 200 ∧ fl τ' 11 0 = 5 ∧ fl τ' 12 0 = spt τ place)) := by
  intro m
  induction m with
  | zero =>
    intro n τ i hn hb i0 b1 l0 h11 h64
    cases n with
    | zero => omega
    | succ n =>
      refine ⟨τ, ?_, fun _ _ _ _ _ => rfl, fun _ _ => rfl, Or.inl ⟨by omega, by omega, h11, rfl⟩⟩
      rw [r_counts_2, grd_t (by exact ⟨by omega, by omega⟩), grd_t (by exact ⟨by omega, by omega⟩), if_neg (by omega)]
  | succ m ih =>
    intro n τ i hn hb i0 b1 l0 h11 h64
    cases n with
    | zero => omega
    | succ n =>
      by_cases c : fl τ 64 0 = 200
      · refine ⟨sf (sf τ 11 0 5) 12 0 (spt τ place), ?_, fun f x h1 h2 _ => by rw [fl_sfn _ _ _ _ h2, fl_sfn _ _ _ _ h1], fun _ _ => rfl, Or.inr ⟨by omega, by rw [fl_sfn _ _ _ _ (by decide), fl_sfn _ _ _ _ (by decide)]; exact c, by rw [fl_sfn _ _ _ _ (by decide), fl_sfs], fl_sfs _ _ _ _⟩⟩
        have g11 : fl (sf (sf τ 11 0 5) 12 0 (spt τ place)) 11 0 = 5 := by rw [fl_sfn _ _ _ _ (by decide), fl_sfs]
        rw [r_counts_2, grd_t (by exact ⟨by omega, by omega⟩), grd_t (by exact ⟨by omega, by omega⟩), if_pos (by omega), h11, grd_t (by exact ⟨by omega, by omega⟩), if_pos rfl, c, grd_t (by exact ⟨by omega, by omega⟩), if_pos rfl, r_spot' (by exact ⟨by omega, by omega⟩), Option.bind_some, r_fail0 h11, Option.bind_some]
        show r_counts_2 N n _ place bs (i + 1) = _
        cases n with
        | zero => omega
        | succ n =>
          rw [r_counts_2, grd_t (by exact ⟨by omega, by omega⟩), grd_t (by exact ⟨by omega, by omega⟩), g11, grd_t (by exact ⟨by omega, by omega⟩), if_neg (show ¬ (5 : Int) = 0 by decide), ite_self]
      · obtain ⟨τ', q1, q2, q3, q4⟩ := ih n (sf τ 64 0 (fl τ 64 0 + 1)) (i + 1) (by omega) (by omega) (by omega) b1 (by rw [fl_sfn _ _ _ _ (by decide)]; exact l0) (by rw [fl_sfn _ _ _ _ (by decide)]; exact h11) (by rw [fl_sfs]; omega)
        refine ⟨τ', ?_, fun f x h1 h2 h3 => by rw [q2 f x h1 h2 h3, fl_sfn _ _ _ _ h3], fun a x => q3 a x, ?_⟩
        · rw [r_counts_2, grd_t (by exact ⟨by omega, by omega⟩), grd_t (by exact ⟨by omega, by omega⟩), if_pos (by omega), h11, grd_t (by exact ⟨by omega, by omega⟩), if_pos rfl, grd_t (by exact ⟨by omega, by omega⟩), if_neg c]
          exact q1
        · have s1 : spt (sf τ 64 0 (fl τ 64 0 + 1)) place = spt τ place := by unfold spt; rw [fl_sfn _ _ _ _ (by decide), fl_sfn _ _ _ _ (by decide)]
          rw [fl_sfs, fl_sfn _ _ _ _ (by decide), s1] at q4
          rcases q4 with q4 | q4
          · exact Or.inl ⟨by omega, by omega, q4.2.2⟩
          · exact Or.inr ⟨by omega, q4.2⟩
end RM
