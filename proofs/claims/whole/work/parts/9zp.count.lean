/-! the scanner: counts and fractions -/
/-- the value of digits on the tape -/
def dvl (τ : St) (k : Int) : Nat → Int
  | 0 => 0
  | m + 1 => dvl τ k m * 10 + bA τ (k + m) - 48
theorem dvl_b {τ : St} {k : Int} : ∀ {m : Nat}, (∀ i, k ≤ i → i < k + m → isDg (bA τ i)) → 0 ≤ dvl τ k m ∧ dvl τ k m < 10 ^ m
  | 0, _ => ⟨Int.le_refl _, by show (0 : Int) < 10 ^ 0; decide⟩
  | m + 1, h => by
    obtain ⟨h1, h2⟩ := dvl_b (m := m) (fun i a b => h i a (by omega))
    have := h (k + m) (by omega) (by omega)
    show 0 ≤ dvl τ k m * 10 + bA τ (k + m) - 48 ∧ dvl τ k m * 10 + bA τ (k + m) - 48 < 10 ^ (m + 1)
    rw [Int.pow_succ]
    omega
theorem dvl_sc {τ τ' : St} (hr : SFr τ τ') (k : Int) : ∀ m, dvl τ' k m = dvl τ k m
  | 0 => rfl
  | m + 1 => by show dvl τ' k m * 10 + bA τ' (k + m) - 48 = dvl τ k m * 10 + bA τ (k + m) - 48; rw [bA_sc hr, dvl_sc hr k m]
section SCn
variable {N : Nat} {π : Sh}
theorem c_value {σ τ : St} {k : Int} (hT : RTp σ τ) (k0 : 0 ≤ k) (j : Nat) (hj : j ≤ 4) (hs : k + j ≤ fl τ 1 0) (hA : ∀ i, k ≤ i → i < k + j → isDg (bA τ i)) : ∀ (m : Nat) (n : Nat) (d : Nat), m < n → d + m = j → Sc_valueOf_5 N π n σ (k + j) (dvl τ k d) (k + d) = some (σ, dvl τ k j) := by
  have size := hT.2.2.1
  intro m
  induction m with
  | zero =>
    intro n d hn hd
    obtain ⟨n, rfl⟩ : ∃ q, n = q + 1 := ⟨n - 1, by omega⟩
    have : d = j := by omega
    subst this
    rw [Sc_valueOf_5, grd_t (by exact ⟨by omega, by omega⟩), grd_t (by exact ⟨by omega, by omega⟩), if_neg (by omega)]
  | succ m ih =>
    intro n d hn hd
    obtain ⟨n, rfl⟩ : ∃ q, n = q + 1 := ⟨n - 1, by omega⟩
    have q := ih n (d + 1) (by omega) (by omega)
    rw [Sc_valueOf_5, grd_t (by exact ⟨by omega, by omega⟩), grd_t (by exact ⟨by omega, by omega⟩), if_pos (by omega), c_byteAt hT (by exact ⟨by omega, by omega⟩), Option.bind_some, bnd]
    rw [show k + ((d + 1 : Nat) : Int) = k + d + 1 by omega] at q
    exact q
/-- where digits end, told by bytes -/
theorem digits_end {σ τ : St} (hT : RTp σ τ) {k : Int} (k0 : 0 ≤ k) (k1 : k ≤ fl τ 1 0) : ∃ e : Nat, k + e ≤ fl τ 1 0 ∧ (∀ i, k ≤ i → i < k + e → isDg (bA τ i)) ∧ ¬ isDg (bA τ (k + e)) ∧ (∀ n : Nat, 2001 ≤ n → Sc_digitsBehind_2 N π n σ k = some (σ, k + e)) := by
  have size := hT.2.2.1
  obtain ⟨j, j1, j2, j3, j4, j5⟩ := c_digits (N := N) (π := π) hT (fl τ 1 0 - k).toNat 2001 k k0 (by omega) (by omega)
  refine ⟨(j - k).toNat, by omega, fun i a b => ?_, ?_, fun n hn => ?_⟩
  · rw [bA_in ⟨by omega, by omega⟩]; exact j3 i a (by omega)
  · rw [show k + ((j - k).toNat : Int) = j by omega]
    by_cases c : j < fl τ 1 0
    · rw [bA_in ⟨by omega, c⟩]; exact j4 c
    · unfold bA; rw [if_neg (by omega)]; omega
  · obtain ⟨j', j1', j2', j3', j4', j5'⟩ := c_digits (N := N) (π := π) hT (fl τ 1 0 - k).toNat n k k0 (by omega) (by omega)
    have e : j' = j := by
      by_cases c1 : j' < j
      · exact absurd (j3 j' j1' c1) (j4' (by omega))
      · by_cases c2 : j < j'
        · exact absurd (j3' j j1 c2) (j4 (by omega))
        · omega
    rw [j5', e, show k + ((j - k).toNat : Int) = j by omega]
theorem r_num103 {σ0 τ0 : St} {k : Int} (hT : RTp σ0 τ0) (k0 : 0 ≤ k) (e : Nat) (he : k + e ≤ fl τ0 1 0) (hA : ∀ i, k ≤ i → i < k + e → isDg (bA τ0 i)) (hB : ¬ isDg (bA τ0 (k + e))) (x3 : Int) (h3 : 0 ≤ x3 ∧ x3 ≤ 2000) : ∀ (m n d : Nat) (τ : St), m < n → d + m = e → SFr τ0 τ → r_lookNumber_103 N n τ (k + d) (dvl τ0 k (min d 4)) x3 d = some (sf (sf (sf τ 10 0 (dvl τ0 k (min e 4))) 3 0 (if 4 < x3 ∨ 4 < (e : Int) then 7 else 4)) 5 0 (k + e)) := by
  have size := hT.2.2.1
  intro m
  induction m with
  | zero =>
    intro n d τ hn hd hr
    obtain ⟨n, rfl⟩ : ∃ q, n = q + 1 := ⟨n - 1, by omega⟩
    have : d = e := by omega
    subst this
    have hT' := hT.sc (SFc.rf σ0) hr
    have bb := bA_rg hT (k + d)
    have i1 : i32 (bA τ (k + d)) := by rw [bA_sc hr]; exact ⟨by omega, by omega⟩
    rw [r_lookNumber_103, rr_byteAt hT' (by exact ⟨by omega, by omega⟩), Option.bind_some, rr_isDigit i1, if_neg (by rw [bA_sc hr]; exact hB), Option.bind_some, grd_t (by decide), if_pos rfl, grd_t (by exact ⟨by omega, by omega⟩)]
    by_cases c1 : 4 < x3
    · rw [if_pos c1, if_pos (Or.inl c1)]; rfl
    · rw [if_neg c1, grd_t (by exact ⟨by omega, by omega⟩)]
      by_cases c2 : 4 < (d : Int)
      · rw [if_pos c2, if_pos (Or.inr c2)]; rfl
      · rw [if_neg c2, if_neg (by omega)]; rfl
  | succ m ih =>
    intro n d τ hn hd hr
    obtain ⟨n, rfl⟩ : ∃ q, n = q + 1 := ⟨n - 1, by omega⟩
    have hT' := hT.sc (SFc.rf σ0) hr
    have bb := bA_rg hT (k + d)
    have i1 : i32 (bA τ (k + d)) := by rw [bA_sc hr]; exact ⟨by omega, by omega⟩
    have q := ih n (d + 1) τ (by omega) (by omega) hr
    rw [show k + ((d + 1 : Nat) : Int) = k + d + 1 by omega] at q
    have dg := hA (k + d) (by omega) (by omega)
    rw [r_lookNumber_103, rr_byteAt hT' (by exact ⟨by omega, by omega⟩), Option.bind_some, rr_isDigit i1, if_pos (by rw [bA_sc hr]; exact dg), Option.bind_some, grd_t (by decide), if_neg (by decide), grd_t (by exact ⟨by omega, by omega⟩)]
    by_cases c : (d : Int) < 4
    · have m1 : min d 4 = d := by omega
      have m2 : min (d + 1) 4 = d + 1 := by omega
      rw [m2] at q
      rw [if_pos c, rr_byteAt hT' (by exact ⟨by omega, by omega⟩), Option.bind_some, r_lookNumber_137, m1, bA_sc hr]
      rw [show dvl τ0 k (d + 1) = 10 * dvl τ0 k d + bA τ0 (k + d) - 48 by show dvl τ0 k d * 10 + bA τ0 (k + d) - 48 = _; omega] at q
      exact q
    · have m1 : min d 4 = min (d + 1) 4 := by omega
      rw [if_neg c, r_lookNumber_137, m1]
      exact q
theorem r_num9 {σ0 τ0 : St} {k : Int} (hT : RTp σ0 τ0) (k0 : 0 ≤ k) (e : Nat) (he : k + e ≤ fl τ0 1 0) (hA : ∀ i, k ≤ i → i < k + e → isDg (bA τ0 i)) (hB : ¬ isDg (bA τ0 (k + e))) : ∀ (m n d : Nat) (τ : St), m < n → d + m = e → SFr τ0 τ → r_lookNumber_9 N n τ (k + d) (dvl τ0 k (min d 4)) d = r_lookNumber_69 N (sf τ 9 0 (dvl τ0 k (min e 4))) (k + e) e (if 4 < (e : Int) then 7 else 3) := by
  have size := hT.2.2.1
  intro m
  induction m with
  | zero =>
    intro n d τ hn hd hr
    obtain ⟨n, rfl⟩ : ∃ q, n = q + 1 := ⟨n - 1, by omega⟩
    have : d = e := by omega
    subst this
    have hT' := hT.sc (SFc.rf σ0) hr
    have bb := bA_rg hT (k + d)
    have i1 : i32 (bA τ (k + d)) := by rw [bA_sc hr]; exact ⟨by omega, by omega⟩
    rw [r_lookNumber_9, rr_byteAt hT' (by exact ⟨by omega, by omega⟩), Option.bind_some, rr_isDigit i1, if_neg (by rw [bA_sc hr]; exact hB), Option.bind_some, grd_t (by decide), if_pos rfl, grd_t (by exact ⟨by omega, by omega⟩)]
    by_cases c2 : 4 < (d : Int)
    · rw [if_pos c2, if_pos c2]
    · rw [if_neg c2, if_neg c2]
  | succ m ih =>
    intro n d τ hn hd hr
    obtain ⟨n, rfl⟩ : ∃ q, n = q + 1 := ⟨n - 1, by omega⟩
    have hT' := hT.sc (SFc.rf σ0) hr
    have bb := bA_rg hT (k + d)
    have i1 : i32 (bA τ (k + d)) := by rw [bA_sc hr]; exact ⟨by omega, by omega⟩
    have q := ih n (d + 1) τ (by omega) (by omega) hr
    rw [show k + ((d + 1 : Nat) : Int) = k + d + 1 by omega] at q
    have dg := hA (k + d) (by omega) (by omega)
    rw [r_lookNumber_9, rr_byteAt hT' (by exact ⟨by omega, by omega⟩), Option.bind_some, rr_isDigit i1, if_pos (by rw [bA_sc hr]; exact dg), Option.bind_some, grd_t (by decide), if_neg (by decide), grd_t (by exact ⟨by omega, by omega⟩)]
    by_cases c : (d : Int) < 4
    · have m1 : min d 4 = d := by omega
      have m2 : min (d + 1) 4 = d + 1 := by omega
      rw [m2] at q
      rw [if_pos c, rr_byteAt hT' (by exact ⟨by omega, by omega⟩), Option.bind_some, r_lookNumber_42, m1, bA_sc hr]
      rw [show dvl τ0 k (d + 1) = 10 * dvl τ0 k d + bA τ0 (k + d) - 48 by show dvl τ0 k d * 10 + bA τ0 (k + d) - 48 = _; omega] at q
      exact q
    · have m1 : min d 4 = min (d + 1) 4 := by omega
      rw [if_neg c, r_lookNumber_42, m1]
      exact q
/-- both read a count or a fraction -/
theorem both_count {σ τ : St} {k : Int} (hN : 3000 ≤ N) (hT : RTp σ τ) (k0 : 0 ≤ k) (k1 : k < fl τ 1 0) (hk : isDg (bA τ k)) (h186 : fl σ 186 1 = k) (h4 : fl τ 4 0 = k) : ∃ (σ' τ' : St) (j : Int), Sc_scanCount N π σ = some σ' ∧ r_lookNumber N τ = some τ' ∧ SFc σ σ' ∧ SFr τ τ' ∧ fl σ' 186 1 = k ∧ fl τ' 4 0 = k ∧ (k < j ∧ j ≤ fl τ 1 0) ∧ fl σ' 187 1 = j ∧ fl τ' 5 0 = j ∧ ((fl σ' 185 1 = 5 ∧ fl τ' 3 0 = 7) ∨ (fl σ' 185 1 = 2 ∧ fl τ' 3 0 = 3 ∧ (fl σ' 189 1 = fl τ' 9 0 ∧ 0 ≤ fl τ' 9 0 ∧ fl τ' 9 0 ≤ 9999) ∧ fl σ' 190 1 = 1) ∨ (fl σ' 185 1 = 3 ∧ fl τ' 3 0 = 4 ∧ (fl σ' 189 1 = fl τ' 9 0 ∧ 0 ≤ fl τ' 9 0 ∧ fl τ' 9 0 ≤ 9999) ∧ fl σ' 190 1 = fl τ' 10 0 ∧ 0 ≤ fl τ' 10 0 ∧ fl τ' 10 0 ≤ 9999)) := by
  have size := hT.2.2.1
  obtain ⟨e, e1, e2, e3, e4⟩ := digits_end (N := N) (π := π) hT k0 (by omega)
  have e0 : 1 ≤ e := by
    by_cases c : e = 0
    · subst c; exact absurd hk (by simpa using e3)
    · omega
  have bb := bA_rg hT (k + e)
  have bb1 := bA_rg hT (k + e + 1)
  have db := dvl_b e2
  have p4 : ∀ q : Nat, q ≤ 4 → (10 : Int) ^ q ≤ 10000 := fun q hq => by rcases (show q = 0 ∨ q = 1 ∨ q = 2 ∨ q = 3 ∨ q = 4 by omega) with rfl | rfl | rfl | rfl | rfl <;> decide
  -- the reference
  have r9 : r_lookNumber N τ = r_lookNumber_69 N (sf τ 9 0 (dvl τ k (min e 4))) (k + e) e (if 4 < (e : Int) then 7 else 3) := by
    rw [r_lookNumber, h4]
    have q := r_num9 (N := N) hT k0 e e1 e2 e3 e N 0 τ (by omega) (by omega) (SFr.rf τ)
    rw [show k + ((0 : Nat) : Int) = k by omega] at q
    exact q
  -- the class, as far as the first digits
  obtain ⟨f, hf⟩ : ∃ f : Int, f = if 4 < (e : Int) then 0 else 1 := ⟨_, rfl⟩
  obtain ⟨w, hw⟩ : ∃ w : Int, w = if 4 < (e : Int) then 0 else dvl τ k e := ⟨_, rfl⟩
  have s24 : Sc_scanCount N π σ = Sc_scanCount_43 N π σ (k + e) f w := by
    rw [Sc_scanCount, Sc_digitsBehind, h186, e4 N (by omega), Option.bind_some]
    simp only
    rw [h186, show k + (e : Int) - k = e by omega, grd_t (by exact ⟨by omega, by omega⟩), hf, hw]
    by_cases c : 4 < (e : Int)
    · rw [if_pos c, if_pos c, if_pos c, Sc_scanCount_24, grd_t (by decide), if_pos rfl]
    · rw [if_neg c, if_neg c, if_neg c, Sc_scanCount_24, grd_t (by decide), if_neg (by decide), Sc_valueOf, h186]
      have v := c_value (N := N) (π := π) hT k0 e (by omega) e1 e2 e N 0 (by omega) (by omega)
      rw [show k + ((0 : Nat) : Int) = k by omega] at v
      rw [show dvl τ k 0 = 0 from rfl] at v
      rw [v, Option.bind_some]
  obtain ⟨σ1, hσ1⟩ : ∃ σ1, σ1 = sf (sf (sf (sf σ 189 1 w) 190 1 1) 187 1 (k + e)) 185 1 2 := ⟨_, rfl⟩
  have c1 : SFc σ σ1 := by rw [hσ1]; exact ((((SFc.rf σ).sf 189 _ (by omega)).sf 190 _ (by omega)).sf 187 _ (by omega)).sf 185 _ (by omega)
  have hT1 := hT.sc c1 (SFr.rf τ)
  have g186 : fl σ1 186 1 = k := by rw [hσ1, fl_sfn _ _ _ _ (by decide), fl_sfn _ _ _ _ (by decide), fl_sfn _ _ _ _ (by decide), fl_sfn _ _ _ _ (by decide)]; exact h186
  have g187 : fl σ1 187 1 = k + e := by rw [hσ1, fl_sfn _ _ _ _ (by decide), fl_sfs]
  have g189 : fl σ1 189 1 = w := by rw [hσ1, fl_sfn _ _ _ _ (by decide), fl_sfn _ _ _ _ (by decide), fl_sfn _ _ _ _ (by decide), fl_sfs]
  have g190 : fl σ1 190 1 = 1 := by rw [hσ1, fl_sfn _ _ _ _ (by decide), fl_sfn _ _ _ _ (by decide), fl_sfs]
  have g185 : fl σ1 185 1 = 2 := by rw [hσ1, fl_sfs]
  obtain ⟨τ1, hτ1⟩ : ∃ τ1, τ1 = sf (sf τ 9 0 (dvl τ k (min e 4))) 3 0 (if 4 < (e : Int) then 7 else 3) := ⟨_, rfl⟩
  have r1 : SFr τ τ1 := by rw [hτ1]; exact ((SFr.rf τ).sf 9 _ (by omega)).sf 3 _ (by omega)
  have hT2 := hT.sc (SFc.rf σ) r1
  have t4 : fl τ1 4 0 = k := by rw [hτ1, fl_sfn _ _ _ _ (by decide), fl_sfn _ _ _ _ (by decide)]; exact h4
  have t9 : fl τ1 9 0 = dvl τ k (min e 4) := by rw [hτ1, fl_sfn _ _ _ _ (by decide), fl_sfs]
  have t3 : fl τ1 3 0 = if 4 < (e : Int) then 7 else 3 := by rw [hτ1, fl_sfs]
  have i1 : i32 (bA τ (k + e)) := ⟨by omega, by omega⟩
  have i2 : i32 (bA τ (k + e + 1)) := ⟨by omega, by omega⟩
  have fi : i32 f := by rw [hf]; split <;> decide
  have p9 := p4 (min e 4) (by omega)
  have d9 := dvl_b (τ := τ) (k := k) (m := min e 4) (fun i a b => e2 i a (by omega))
  by_cases cc : bA τ (k + e) = 58 ∧ isDg (bA τ (k + e + 1))
  · -- a fraction
    have kk1 : k + e + 1 < fl τ 1 0 := by
      by_cases c : k + (e : Int) + 1 < fl τ 1 0
      · exact c
      · have : bA τ (k + e + 1) = 0 := by unfold bA; rw [if_neg (by omega)]
        rw [this] at cc; omega
    obtain ⟨d, d1, d2, d3, d4⟩ := digits_end (N := N) (π := π) hT (k := k + e + 1) (by omega) (by omega)
    obtain ⟨d', d1', d2', d3', d4'⟩ := digits_end (N := N) (π := π) hT1 (k := k + e + 1) (by omega) (by omega)
    have dd : d' = d := by
      by_cases c1 : d' < d
      · exact absurd (d2 (k + e + 1 + d') (by omega) (by omega)) d3'
      · by_cases c2 : d < d'
        · exact absurd (d2' (k + e + 1 + d) (by omega) (by omega)) d3
        · omega
    subst dd
    have q103 := r_num103 (N := N) hT (k := k + e + 1) (by omega) d' d1 d2 d3 e (by omega) d' N 0 τ1 (by omega) (by omega) r1
    rw [show k + (e : Int) + 1 + ((0 : Nat) : Int) = k + e + 1 by omega] at q103
    have rr : r_lookNumber N τ = some (sf (sf (sf τ1 10 0 (dvl τ (k + e + 1) (min d' 4))) 3 0 (if 4 < (e : Int) ∨ 4 < (d' : Int) then 7 else 4)) 5 0 (k + e + 1 + d')) := by
      rw [r9, r_lookNumber_69, bnd, ← hτ1, rr_byteAt hT2 (by exact ⟨by omega, by omega⟩), Option.bind_some, bA_sc r1, grd_t i1, if_pos cc.1, rr_byteAt hT2 (by exact ⟨by omega, by omega⟩), Option.bind_some, bA_sc r1, rr_isDigit i2, if_pos cc.2, Option.bind_some, grd_t (by decide), if_neg (by decide)]
      exact q103
    have c145 : ∀ (x : Int) (σ2 : St), (x = 0 ∨ x = 1) → Sc_scanCount_145 N π σ2 x = some (if x = 0 then sf σ2 185 1 5 else σ2) := fun x σ2 hx => by
      rw [Sc_scanCount_145, grd_t (by rcases hx with rfl | rfl <;> decide)]
      split <;> rfl
    have p10 := p4 (min d' 4) (by omega)
    have d10 := dvl_b (τ := τ) (k := k + e + 1) (m := min d' 4) (fun i a b => d2 i a (by omega))
    obtain ⟨σ2, hσ2⟩ : ∃ σ2, σ2 = sf σ1 187 1 (k + e + 1 + d') := ⟨_, rfl⟩
    have c2 : SFc σ σ2 := by rw [hσ2]; exact c1.sf 187 _ (by omega)
    have hT3 := hT.sc c2 (SFr.rf τ)
    by_cases cf : 4 < (e : Int) ∨ 4 < (d' : Int)
    · refine ⟨sf (sf (sf σ2 190 1 1) 185 1 3) 185 1 5, _, k + e + 1 + d', ?_, rr, ((c2.sf 190 _ (by omega)).sf 185 _ (by omega)).sf 185 _ (by omega), ((r1.sf 10 _ (by omega)).sf 3 _ (by omega)).sf 5 _ (by omega), ?_, ?_, ⟨by omega, by omega⟩, ?_, fl_sfs _ _ _ _, Or.inl ⟨fl_sfs _ _ _ _, ?_⟩⟩
      · have s115 : Sc_scanCount_115 N π σ2 (k + e) = some (sf (sf (sf σ2 190 1 1) 185 1 3) 185 1 5) := by
          rw [Sc_scanCount_115, Sc_scanCount_116, grd_t (by decide), if_pos rfl, Sc_scanCount_137, c145 0 _ (Or.inl rfl), if_pos rfl]
        rw [s24, Sc_scanCount_43, bnd, ← hσ1, c_byteAt hT1 (by exact ⟨by omega, by omega⟩), Option.bind_some, grd_t i1, if_pos cc.1, c_byteAt hT1 (by exact ⟨by omega, by omega⟩), Option.bind_some, c_isDigit i2, if_pos cc.2, Option.bind_some, grd_t (by decide), if_neg (by decide), Sc_digitsBehind, d4' N (by omega), Option.bind_some, grd_t fi]
        simp only
        rw [← hσ2]
        by_cases c4 : 4 < (e : Int)
        · rw [if_pos (show f = 0 by rw [hf, if_pos c4]), s115]
        · rw [if_neg (show ¬ f = 0 by rw [hf, if_neg c4]; decide), show k + (e : Int) + 1 + (d' : Int) - (k + e) - 1 = d' by omega, grd_t (by exact ⟨by omega, by omega⟩), if_pos (by omega), s115]
      · rw [fl_sfn _ _ _ _ (by decide), fl_sfn _ _ _ _ (by decide), fl_sfn _ _ _ _ (by decide), hσ2, fl_sfn _ _ _ _ (by decide)]; exact g186
      · rw [fl_sfn _ _ _ _ (by decide), fl_sfn _ _ _ _ (by decide), fl_sfn _ _ _ _ (by decide)]; exact t4
      · rw [fl_sfn _ _ _ _ (by decide), fl_sfn _ _ _ _ (by decide), fl_sfn _ _ _ _ (by decide), hσ2, fl_sfs]
      · rw [fl_sfn _ _ _ _ (by decide), fl_sfs, if_pos cf]
    · have mm : min e 4 = e := by omega
      have mm' : min d' 4 = d' := by omega
      have c4 : ¬ 4 < (e : Int) := fun h => cf (Or.inl h)
      refine ⟨sf (sf σ2 190 1 (dvl τ (k + e + 1) d')) 185 1 3, _, k + e + 1 + d', ?_, rr, (c2.sf 190 _ (by omega)).sf 185 _ (by omega), ((r1.sf 10 _ (by omega)).sf 3 _ (by omega)).sf 5 _ (by omega), ?_, ?_, ⟨by omega, by omega⟩, ?_, fl_sfs _ _ _ _, Or.inr (Or.inr ⟨fl_sfs _ _ _ _, ?_, ⟨?_, ?_⟩, ?_, ?_⟩)⟩
      · have v := c_value (N := N) (π := π) hT3 (k := k + e + 1) (by omega) d' (by omega) d1 d2 d' N 0 (by omega) (by omega)
        rw [show k + (e : Int) + 1 + ((0 : Nat) : Int) = k + e + 1 by omega, show dvl τ (k + e + 1) 0 = 0 from rfl] at v
        have g : fl σ2 187 1 = k + e + 1 + d' := by rw [hσ2, fl_sfs]
        rw [s24, Sc_scanCount_43, bnd, ← hσ1, c_byteAt hT1 (by exact ⟨by omega, by omega⟩), Option.bind_some, grd_t i1, if_pos cc.1, c_byteAt hT1 (by exact ⟨by omega, by omega⟩), Option.bind_some, c_isDigit i2, if_pos cc.2, Option.bind_some, grd_t (by decide), if_neg (by decide), Sc_digitsBehind, d4' N (by omega), Option.bind_some, grd_t fi]
        simp only
        rw [← hσ2, if_neg (show ¬ f = 0 by rw [hf, if_neg c4]; decide), show k + (e : Int) + 1 + (d' : Int) - (k + e) - 1 = d' by omega, grd_t (by exact ⟨by omega, by omega⟩), if_neg (by omega), Sc_scanCount_116, grd_t (by decide), if_neg (by decide), Sc_valueOf, g, v, Option.bind_some, Sc_scanCount_137, c145 1 _ (Or.inr rfl), if_neg (by decide)]
      · rw [fl_sfn _ _ _ _ (by decide), fl_sfn _ _ _ _ (by decide), hσ2, fl_sfn _ _ _ _ (by decide)]; exact g186
      · rw [fl_sfn _ _ _ _ (by decide), fl_sfn _ _ _ _ (by decide), fl_sfn _ _ _ _ (by decide)]; exact t4
      · rw [fl_sfn _ _ _ _ (by decide), fl_sfn _ _ _ _ (by decide), hσ2, fl_sfs]
      · rw [fl_sfn _ _ _ _ (by decide), fl_sfs, if_neg cf]
      · rw [fl_sfn _ _ _ _ (by decide), fl_sfn _ _ _ _ (by decide), hσ2, fl_sfn _ _ _ _ (by decide), g189, hw, if_neg c4, fl_sfn _ _ _ _ (by decide), fl_sfn _ _ _ _ (by decide), fl_sfn _ _ _ _ (by decide), t9, mm]
      · rw [fl_sfn _ _ _ _ (by decide), fl_sfn _ _ _ _ (by decide), fl_sfn _ _ _ _ (by decide), t9]; omega
      · rw [fl_sfn _ _ _ _ (by decide), fl_sfs, fl_sfn _ _ _ _ (by decide), fl_sfn _ _ _ _ (by decide), fl_sfs, mm']
      · rw [fl_sfn _ _ _ _ (by decide), fl_sfn _ _ _ _ (by decide), fl_sfs]; omega
  · -- a count
    have c145 : Sc_scanCount_145 N π σ1 f = some (if 4 < (e : Int) then sf σ1 185 1 5 else σ1) := by
      rw [Sc_scanCount_145, grd_t fi, hf]
      by_cases c4 : 4 < (e : Int)
      · rw [if_pos c4, if_pos rfl, if_pos c4]
      · rw [if_neg c4, if_neg (by decide), if_neg c4]
    have cl : Sc_scanCount N π σ = some (if 4 < (e : Int) then sf σ1 185 1 5 else σ1) := by
      rw [s24, Sc_scanCount_43, bnd, ← hσ1, c_byteAt hT1 (by exact ⟨by omega, by omega⟩), Option.bind_some, grd_t i1]
      by_cases c58 : bA τ (k + e) = 58
      · rw [if_pos c58, c_byteAt hT1 (by exact ⟨by omega, by omega⟩), Option.bind_some, c_isDigit i2, if_neg (fun h => cc ⟨c58, h⟩), Option.bind_some, grd_t (by decide), if_pos rfl, c145]
      · rw [if_neg c58, c145]
    have rl : r_lookNumber N τ = some (sf τ1 5 0 (k + e)) := by
      rw [r9, r_lookNumber_69, bnd, ← hτ1, rr_byteAt hT2 (by exact ⟨by omega, by omega⟩), Option.bind_some, bA_sc r1, grd_t i1]
      by_cases c58 : bA τ (k + e) = 58
      · rw [if_pos c58, rr_byteAt hT2 (by exact ⟨by omega, by omega⟩), Option.bind_some, bA_sc r1, rr_isDigit i2, if_neg (fun h => cc ⟨c58, h⟩), Option.bind_some, grd_t (by decide), if_pos rfl]; rfl
      · rw [if_neg c58]; rfl
    by_cases c4 : 4 < (e : Int)
    · rw [if_pos c4] at cl t3
      exact ⟨_, _, k + e, cl, rl, c1.sf 185 _ (by omega), r1.sf 5 _ (by omega), by rw [fl_sfn _ _ _ _ (by decide)]; exact g186, by rw [fl_sfn _ _ _ _ (by decide)]; exact t4, ⟨by omega, e1⟩, by rw [fl_sfn _ _ _ _ (by decide)]; exact g187, fl_sfs _ _ _ _, Or.inl ⟨fl_sfs _ _ _ _, by rw [fl_sfn _ _ _ _ (by decide)]; exact t3⟩⟩
    · rw [if_neg c4] at cl t3 hw
      have mm : min e 4 = e := by omega
      exact ⟨_, _, k + e, cl, rl, c1, r1.sf 5 _ (by omega), g186, by rw [fl_sfn _ _ _ _ (by decide)]; exact t4, ⟨by omega, e1⟩, g187, fl_sfs _ _ _ _, Or.inr (Or.inl ⟨g185, by rw [fl_sfn _ _ _ _ (by decide)]; exact t3, ⟨by rw [g189, fl_sfn _ _ _ _ (by decide), t9, mm, hw], by rw [fl_sfn _ _ _ _ (by decide), t9]; omega⟩, g190⟩)⟩
end SCn
