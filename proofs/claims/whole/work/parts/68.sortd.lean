/-! the class's sorting and rotating of events, to their ends -/
/-- an event in the spare arrays -/
def SE (σ : St) (i : Int) (e : Evt) : Prop := el σ 20 i = e.1 ∧ el σ 21 i = e.2.1 ∧ RV (el σ 19 i) (el σ 17 i) (el σ 18 i) e.2.2
section SD
variable {N : Nat} {π : Sh}
theorem c_spare_lp {m many : Int} (h2 : many ≤ 1024) (h0 : 0 ≤ m) : ∀ (l : List Evt) (n : Nat) (σ : St) (K : List Evt), l.length < n → At (SE σ) 0 K → At (CE σ) (m + K.length) l → K.length + l.length = many → m + many ≤ 6000 → ∃ σ', Es_copyToSpare_2 N π n σ m many K.length = some σ' ∧ (∀ f i, fl σ' f i = fl σ f i) ∧ (∀ a j, a < 17 ∨ 21 < a → el σ' a j = el σ a j) ∧ At (SE σ') 0 (K ++ l)
  | [], n + 1, σ, K, _, hK, _, h1, h3 => by
    simp only [List.length_nil] at h1
    refine ⟨σ, ?_, fun _ _ => rfl, fun _ _ _ => rfl, by rw [List.append_nil]; exact hK⟩
    rw [Es_copyToSpare_2, grd_t (by exact ⟨by omega, by omega⟩), grd_t (by exact ⟨by omega, by omega⟩), if_neg (by omega)]
  | e :: l, n + 1, σ, K, hn, hK, hl, h1, h3 => by
    simp only [List.length_cons] at h1 hn
    obtain ⟨⟨e1, e2, e3⟩, hl⟩ := hl
    have kk : (K.length : Int) + 1 = ((K ++ [e]).length : Int) := by simp only [List.length_append, List.length_cons, List.length_nil]; omega
    have hf : ∀ a j, a < 17 ∨ 21 < a → el (se (se (se (se (se σ 20 K.length (el σ 11 (m + K.length))) 21 K.length (el σ 12 (m + K.length))) 19 K.length (el σ 13 (m + K.length))) 17 K.length (el σ 14 (m + K.length))) 18 K.length (el σ 15 (m + K.length))) a j = el σ a j := fun a j ha => by
      rw [el_sen _ _ _ _ (by omega), el_sen _ _ _ _ (by omega), el_sen _ _ _ _ (by omega), el_sen _ _ _ _ (by omega), el_sen _ _ _ _ (by omega)]
    have hg : ∀ (a j : Int), j < (K.length : Int) → el (se (se (se (se (se σ 20 K.length (el σ 11 (m + K.length))) 21 K.length (el σ 12 (m + K.length))) 19 K.length (el σ 13 (m + K.length))) 17 K.length (el σ 14 (m + K.length))) 18 K.length (el σ 15 (m + K.length))) a j = el σ a j := fun a j ha => by
      simp only [el_se]
      rw [if_neg (by omega), if_neg (by omega), if_neg (by omega), if_neg (by omega), if_neg (by omega)]
    have a1 : At (SE (se (se (se (se (se σ 20 K.length (el σ 11 (m + K.length))) 21 K.length (el σ 12 (m + K.length))) 19 K.length (el σ 13 (m + K.length))) 17 K.length (el σ 14 (m + K.length))) 18 K.length (el σ 15 (m + K.length)))) 0 (K ++ [e]) := by
      refine At.snoc (hK.mono (fun i e' i0 i1 _ h => ?_)) ?_
      · unfold SE at h ⊢
        rw [hg _ _ (by omega), hg _ _ (by omega), hg _ _ (by omega), hg _ _ (by omega), hg _ _ (by omega)]
        exact h
      · rw [show (0 : Int) + (K.length : Int) = K.length by omega]
        unfold SE
        simp only [el_se]
        exact ⟨e1, e2, e3⟩
    obtain ⟨σ2, q1, q2, q3, q4⟩ := c_spare_lp (m := m) (many := many) h2 h0 l n _ (K ++ [e]) (by omega) a1 (by
      rw [← kk, show m + ((K.length : Int) + 1) = m + K.length + 1 by omega]
      refine CE.of (fun b j j1 j2 => ?_) hl
      by_cases hb : b < 17 ∨ 21 < b
      · exact hf b j hb
      · exact (by
          simp only [el_se]
          rw [if_neg (by omega), if_neg (by omega), if_neg (by omega), if_neg (by omega), if_neg (by omega)])) (by simp only [List.length_append, List.length_cons, List.length_nil]; omega) h3
    refine ⟨σ2, ?_, q2, fun a j ha => (q3 a j ha).trans (hf a j ha), ?_⟩
    · rw [Es_copyToSpare_2, grd_t (by exact ⟨by omega, by omega⟩), grd_t (by exact ⟨by omega, by omega⟩), if_pos (by omega), grd_t (by exact ⟨by omega, by omega⟩), grd_t (by exact ⟨by omega, by omega⟩), grd_t e3.z, kk]
      exact q1
    · rw [List.append_assoc] at q4
      exact q4
theorem c_spare {m many : Int} (hN : 1025 ≤ N) (h2 : many ≤ 1024) (h0 : 0 ≤ m) {l : List Evt} {σ : St} (hl : At (CE σ) m l) (h1 : (l.length : Int) = many) (h3 : m + many ≤ 6000) : ∃ σ', Es_copyToSpare N π σ m many = some σ' ∧ (∀ f i, fl σ' f i = fl σ f i) ∧ (∀ a j, a < 17 ∨ 21 < a → el σ' a j = el σ a j) ∧ At (SE σ') 0 l := by
  have := c_spare_lp (N := N) (π := π) (m := m) (many := many) h2 h0 l N σ [] (by omega) trivial (by simpa using hl) (by simpa using h1) h3
  simpa [Es_copyToSpare] using this
theorem at_idx {σ : St} : ∀ {l : List Evt} {i : Int}, At (SE σ) i l → ∀ x ∈ idxL i l, SE σ x.2 x.1
  | [], _, _, _, h => by cases h
  | e :: l, i, h, x, hx => by
    rcases List.mem_cons.1 hx with rfl | hx
    · exact h.1
    · exact at_idx h.2 x hx
theorem c_take {σ : St} {x1 x2 : Int} {e : Evt} (h1 : 0 ≤ x1 ∧ x1 < 6000) (h2 : 0 ≤ x2 ∧ x2 < 1024) (he : RV (el σ 19 x2) (el σ 17 x2) (el σ 18 x2) e.2.2) : Es_takeValue N π σ x1 x2 = some (se (se (se σ 13 x1 (el σ 19 x2)) 14 x1 (el σ 17 x2)) 15 x1 (el σ 18 x2)) := by
  rw [Es_takeValue, grd_t (by exact ⟨by omega, by omega⟩), grd_t (by exact ⟨by omega, by omega⟩), grd_t he.z]
/-- the events in the order of their keys -/
theorem c_gather {m many : Int} (hS : SHs π) (h2 : many ≤ 1024) (h0 : 0 ≤ m) (h3 : m + many ≤ 6000) : ∀ (z : List (Evt × Int)) (n : Nat) (σ : St) (i : Int) (K : List Evt), z.length < n → KY σ → AK σ (fl σ 52 10) i (z.map ky) → (∀ x ∈ z, SE σ x.2 x.1 ∧ 0 ≤ x.2 ∧ x.2 < 1024 ∧ 0 ≤ x.1.1 ∧ x.1.1 < 1000000000000) → At (CE σ) m K → i = K.length → i + z.length = many → ∃ σ', Es_sort_88 N π n σ m many i = some σ' ∧ (∀ f i, fl σ' f i = fl σ f i) ∧ (∀ a j, a < 11 ∨ 15 < a ∨ j < m → el σ' a j = el σ a j) ∧ At (CE σ') m (K ++ z.map Prod.fst)
  | [], n + 1, σ, i, K, _, _, _, _, hK, hi, h1 => by
    simp only [List.length_nil] at h1
    refine ⟨σ, ?_, fun _ _ => rfl, fun _ _ _ => rfl, by rw [List.map_nil, List.append_nil]; exact hK⟩
    rw [Es_sort_88, grd_t (by exact ⟨by omega, by omega⟩), grd_t (by exact ⟨by omega, by omega⟩), if_neg (by omega)]
  | x :: z, n + 1, σ, i, K, hn, hY, hz, hx, hK, hi, h1 => by
    simp only [List.length_cons] at h1 hn
    obtain ⟨s1, s2, s3, s4, s5⟩ := hx x (by simp)
    obtain ⟨u1, u2, u3⟩ := id s1
    have ki : el σ (fl σ 52 10) i = ky x := hz.1
    obtain ⟨hKA, -, -⟩ := hY.ka hS
    have tm : Int.tmod (ky x) 1024 = x.2 := by
      rw [Int.tmod_eq_emod_of_nonneg (by unfold ky; omega)]
      unfold ky; omega
    have hf : ∀ a j, a < 11 ∨ 15 < a ∨ j ≠ m + i → el (se (se (se (se (se σ 11 (m + i) (el σ 20 x.2)) 12 (m + i) (el σ 21 x.2)) 13 (m + i) (el σ 19 x.2)) 14 (m + i) (el σ 17 x.2)) 15 (m + i) (el σ 18 x.2)) a j = el σ a j := fun a j ha => by
      simp only [el_se]
      rw [if_neg (by omega), if_neg (by omega), if_neg (by omega), if_neg (by omega), if_neg (by omega)]
    have hr : 22 ≤ fl σ 52 10 := by
      rcases hY with ⟨h, -⟩ | ⟨h, -⟩ <;> omega
    obtain ⟨σ2, q1, q2, q3, q4⟩ := c_gather (m := m) (many := many) hS h2 h0 h3 z n (se (se (se (se (se σ 11 (m + i) (el σ 20 x.2)) 12 (m + i) (el σ 21 x.2)) 13 (m + i) (el σ 19 x.2)) 14 (m + i) (el σ 17 x.2)) 15 (m + i) (el σ 18 x.2)) (i + 1) (K ++ [x.1]) (by omega) hY (AK.of (fun j _ _ => hf _ j (by show fl σ 52 10 < 11 ∨ 15 < fl σ 52 10 ∨ j ≠ m + i; omega)) hz.2) (fun y hy => by
      obtain ⟨t1, t2⟩ := hx y (by simp [hy])
      refine ⟨?_, t2⟩
      unfold SE at t1 ⊢
      rw [hf _ _ (by omega), hf _ _ (by omega), hf _ _ (by omega), hf _ _ (by omega), hf _ _ (by omega)]
      exact t1) (At.snoc (CE.of (fun b j j1 j2 => hf b j (by omega)) hK) (by
        rw [← hi]
        unfold CE
        simp only [el_se]
        exact ⟨u1, u2, u3⟩)) (by simp only [List.length_append, List.length_cons, List.length_nil]; omega) (by omega)
    refine ⟨σ2, ?_, q2, fun a j ha => (q3 a j ha).trans (hf a j (by omega)), ?_⟩
    · rw [Es_sort_88, grd_t (by exact ⟨by omega, by omega⟩), grd_t (by exact ⟨by omega, by omega⟩), if_pos (by omega), grd_t hKA.1, grd_t (hKA.ina (by omega) (by omega)), ki, grd_t (by unfold ky; exact ⟨by omega, by omega⟩), bnd, tm, grd_t (by exact ⟨by omega, by omega⟩), grd_t (by exact ⟨by omega, by omega⟩), bnd, c_take (e := x.1) ⟨by omega, by omega⟩ ⟨by omega, by omega⟩ (by simp only [el_se]; exact u3), Option.bind_some]
      simp only [el_se]
      exact q1
    · rw [List.append_assoc] at q4
      exact q4
theorem c_keys {m many : Int} (hS : SHs π) (h2 : many ≤ 1024) (h0 : 0 ≤ m) (h3 : m + many ≤ 6000) : ∀ (l : List Evt) (n : Nat) (σ : St) (i : Int) (K : List Int), l.length < n → KY σ → At (CE σ) (m + i) l → AK σ (fl σ 52 10) 0 K → i = K.length → i + l.length = many → ∃ σ', Es_sort_25 N π n σ m many i = Es_sort_59 N π N σ' m many 0 ∧ (∀ f i, fl σ' f i = fl σ f i) ∧ (∀ a j, a ≠ fl σ 52 10 → el σ' a j = el σ a j) ∧ AK σ' (fl σ 52 10) 0 (K ++ keyL i l)
  | [], n + 1, σ, i, K, _, _, _, hK, hi, h1 => by
    simp only [List.length_nil] at h1
    refine ⟨σ, ?_, fun _ _ => rfl, fun _ _ _ => rfl, by rw [keyL, List.append_nil]; exact hK⟩
    rw [Es_sort_25, grd_t (by exact ⟨by omega, by omega⟩), grd_t (by exact ⟨by omega, by omega⟩), if_neg (by omega)]
  | e :: l, n + 1, σ, i, K, hn, hY, hl, hK, hi, h1 => by
    simp only [List.length_cons] at h1 hn
    obtain ⟨hKA, -, -⟩ := hY.ka hS
    have hr : 22 ≤ fl σ 52 10 := by
      rcases hY with ⟨h, -⟩ | ⟨h, -⟩ <;> omega
    have e1 : el σ 11 (m + i) = e.1 := hl.1.1
    obtain ⟨σ2, q1, q2, q3, q4⟩ := c_keys (m := m) (many := many) hS h2 h0 h3 l n (se σ (fl σ 52 10) i (e.1 * 1024 + i)) (i + 1) (K ++ [e.1 * 1024 + i]) (by omega) hY (by
      rw [show m + (i + 1) = m + i + 1 by omega]
      refine hl.2.mono (fun j e' _ _ _ h => ?_)
      unfold CE at h ⊢
      rw [el_sen _ _ _ _ (by omega), el_sen _ _ _ _ (by omega), el_sen _ _ _ _ (by omega), el_sen _ _ _ _ (by omega), el_sen _ _ _ _ (by omega)]
      exact h) (At.snoc (AK.of (fun j j1 j2 => el_sej _ _ _ (by omega)) hK) (by
        show el (se σ (fl σ 52 10) i (e.1 * 1024 + i)) (fl σ 52 10) (0 + (K.length : Int)) = e.1 * 1024 + i
        rw [show (0 : Int) + (K.length : Int) = i by omega]
        exact el_ses _ _ _ _)) (by simp only [List.length_append, List.length_cons, List.length_nil]; omega) (by omega)
    refine ⟨σ2, ?_, q2, fun a j ha => (q3 a j ha).trans (el_sen _ _ _ _ ha), ?_⟩
    · rw [Es_sort_25, grd_t (by exact ⟨by omega, by omega⟩), grd_t (by exact ⟨by omega, by omega⟩), if_pos (by omega), grd_t (by exact ⟨by omega, by omega⟩), grd_t hKA.1, grd_t (hKA.ina (by omega) (by omega)), e1]
      exact q1
    · rw [List.append_assoc] at q4
      exact q4
/-- in order already? -/
theorem c_isSorted_lp : ∀ (l : List Evt) (n : Nat) (σ : St) (i : Int) (a : Evt), l.length < n → At (CE σ) (i - 1) (a :: l) → (∀ e ∈ a :: l, i64 e.1) → 1 ≤ i → i + l.length = fl σ 46 10 → fl σ 46 10 ≤ 6000 → ∃ b, Es_isSorted_4 N π n σ i = some (σ, b) ∧ isZ b ∧ (b = 1 → (a :: l).Pairwise (fun x y => x.1 ≤ y.1))
  | [], n + 1, σ, i, a, _, _, _, h0, h1, h2 => by
    simp only [List.length_nil] at h1
    refine ⟨1, ?_, Or.inr rfl, fun _ => by simp⟩
    rw [Es_isSorted_4, grd_t (by exact ⟨by omega, by omega⟩), grd_t (by exact ⟨by omega, by omega⟩), if_neg (by omega)]
  | b :: l, n + 1, σ, i, a, hn, hl, hb, h0, h1, h2 => by
    simp only [List.length_cons] at h1 hn
    have e1 : el σ 11 (i - 1) = a.1 := hl.1.1
    have hl2 : At (CE σ) i (b :: l) := by have := hl.2; rw [show i - 1 + 1 = i by omega] at this; exact this
    have e2 : el σ 11 i = b.1 := hl2.1.1
    have st : Es_isSorted_4 N π (n + 1) σ i = if b.1 < a.1 then some (σ, 0) else Es_isSorted_4 N π n σ (i + 1) := by
      rw [Es_isSorted_4, grd_t (by exact ⟨by omega, by omega⟩), grd_t (by exact ⟨by omega, by omega⟩), if_pos (by omega), grd_t (by exact ⟨by omega, by omega⟩), grd_t (by exact ⟨by omega, by omega⟩), e1, e2, grd_t (hb a (by simp)), grd_t (hb b (by simp))]
    by_cases c : b.1 < a.1
    · exact ⟨0, by rw [st, if_pos c], Or.inl rfl, fun h => by omega⟩
    · obtain ⟨r, q1, q2, q3⟩ := c_isSorted_lp l n σ (i + 1) b (by omega) (by rw [show i + 1 - 1 = i by omega]; exact hl2) (fun e he => hb e (by simp only [List.mem_cons] at he ⊢; exact Or.inr he)) (by omega) (by omega) h2
      refine ⟨r, by rw [st, if_neg c]; exact q1, q2, fun h => ?_⟩
      have ih := q3 h
      refine List.pairwise_cons.2 ⟨fun z hz => ?_, ih⟩
      rcases List.mem_cons.1 hz with rfl | hz
      · omega
      · have := (List.pairwise_cons.1 ih).1 z hz
        omega
theorem sortE_id {l : List Evt} (h : l.Pairwise (fun x y => x.1 ≤ y.1)) : sortE l = l := isoL_id (h.imp (fun {a b} k => decide_eq_false (by show ¬ b.1 < a.1; omega)))
theorem c_sort {σ : St} {m : Int} {l : List Evt} (hN : 6001 ≤ N) (hS : SHs π) (hY : KY σ) (ha : At (CE σ) m l) (h0 : 0 ≤ m) (h1 : m + l.length = fl σ 46 10) (h2 : fl σ 46 10 ≤ 6000) (hl : l.length ≤ 1024) (hb : ∀ e ∈ l, 0 ≤ e.1 ∧ e.1 < 1000000000000) : ∃ σ', Es_sort N π σ m = some σ' ∧ EF m σ σ' ∧ fl σ' 46 10 = fl σ 46 10 ∧ At (CE σ') m (sortE l) := by
  have vm : fl σ 46 10 - m = l.length := by omega
  have hd : Es_sort N π σ m = Option.bind (Es_isSorted N π σ m) (fun r5 => grd (i32 r5.2) (if r5.2 = 0 then Es_sort_25 N π N r5.1 m l.length 0 else some r5.1)) := by
    rw [Es_sort, bnd, vm, grd_t (by exact ⟨by omega, by omega⟩), if_neg (by omega)]
  match l with
  | [] =>
    simp only [List.length_nil] at h1
    refine ⟨σ, ?_, EF.rf _ _, rfl, trivial⟩
    rw [hd, Es_isSorted, bnd]
    cases N with
    | zero => omega
    | succ n => rw [Es_isSorted_4, grd_t (by exact ⟨by omega, by omega⟩), grd_t (by exact ⟨by omega, by omega⟩), if_neg (by omega), Option.bind_some, grd_t (show i32 1 by decide), if_neg (show ¬ (1 : Int) = 0 by decide)]
  | a :: l =>
    simp only [List.length_cons] at h1 hl
    obtain ⟨b, q1, q2, q3⟩ := c_isSorted_lp (N := N) (π := π) l N σ (m + 1) a (by omega) (by rw [show m + 1 - 1 = m by omega]; exact ha) (fun e he => by have := hb e he; exact ⟨by omega, by omega⟩) (by omega) (by omega) h2
    rcases q2 with rfl | rfl
    · -- not in order: by keys
      have hd2 : Es_sort N π σ m = Es_sort_25 N π N σ m ((a :: l).length : Int) 0 := by
        rw [hd, Es_isSorted, bnd, q1, Option.bind_some, grd_t (show i32 0 by decide), if_pos rfl]
      have many0 : (0 : Int) < ((a :: l).length : Int) := by simp only [List.length_cons]; omega
      have many1 : ((a :: l).length : Int) ≤ 1024 := by simp only [List.length_cons]; omega
      have many2 : m + ((a :: l).length : Int) ≤ 6000 := by simp only [List.length_cons]; omega
      obtain ⟨σ1, k1, k2, k3, k4⟩ := c_keys (N := N) (π := π) (m := m) (many := ((a :: l).length : Int)) hS many1 h0 many2 (a :: l) N σ 0 [] (by simp only [List.length_cons]; omega) hY (by simpa using ha) trivial (by simp) (by simp)
      rw [List.nil_append] at k4
      have hY1 : KY σ1 := by unfold KY; rw [k2, k2]; exact hY
      have f52 : fl σ1 52 10 = fl σ 52 10 := k2 _ _
      have hkb := keyL_b 0 (a :: l) 1000000000000 (Int.le_refl _) (by simpa using many1) (fun e he => by have := hb e he; omega)
      obtain ⟨nd, -⟩ := keyL_nodup 0 (a :: l) (Int.le_refl _) (by simpa using many1)
      have dl : ∀ l : List Int, desL l ≤ l.length - 1 := by
        intro l
        induction l with
        | nil => exact Nat.zero_le _
        | cons x l ih =>
          cases l with
          | nil => exact Nat.zero_le _
          | cons y l =>
            rw [desL]
            simp only [List.length_cons] at ih ⊢
            split <;> omega
      have kl := keyL_len 0 (a :: l)
      have dk := dl (keyL 0 (a :: l))
      obtain ⟨σ2, ks, p1, p2, p3, p4, p5, p6, p7⟩ := c_passes (N := N) (π := π) (many := ((a :: l).length : Int)) (x1 := m) (by omega) hS many1 many0 N (keyL 0 (a :: l)) σ1 0 (by simp only [List.length_cons] at kl; omega) hY1 (by rw [f52]; exact k4) (fun k hk => by have := hkb k hk; exact ⟨by omega, by omega⟩) (by rw [kl]) nd (Int.le_refl _) (by simp only [List.length_cons] at kl; omega)
      have ks1 := keys_sorted (by simp only [List.length_cons]; omega) p6 p7
      have el2 : ∀ a j, 11 ≤ a → a ≤ 21 → el σ2 a j = el σ a j := fun a' j x y => by
        rw [p4 a' j (by omega) (by omega), k3 a' j (by rcases hY with ⟨h, -⟩ | ⟨h, -⟩ <;> omega)]
      have ha2 : At (CE σ2) m (a :: l) := ha.mono (fun j e' _ _ _ h => by
        unfold CE at h ⊢
        rw [el2 11 _ (by decide) (by decide), el2 12 _ (by decide) (by decide), el2 13 _ (by decide) (by decide), el2 14 _ (by decide) (by decide), el2 15 _ (by decide) (by decide)]
        exact h)
      obtain ⟨σ3, s1, s2, s3, s4⟩ := c_spare (N := N) (π := π) (m := m) (many := ((a :: l).length : Int)) (by omega) many1 h0 ha2 rfl many2
      have hY3 : KY σ3 := by unfold KY; rw [s2, s2]; exact p2
      have f3 : fl σ3 52 10 = fl σ2 52 10 := s2 _ _
      have r3 : 21 < fl σ2 52 10 := by rcases p2 with ⟨h, -⟩ | ⟨h, -⟩ <;> omega
      have pz : (isoL (fun a b : Evt × Int => ltE a.1 b.1) (idxL 0 (a :: l))).Perm (idxL 0 (a :: l)) := isoL_perm _ _
      have lz : (isoL (fun a b : Evt × Int => ltE a.1 b.1) (idxL 0 (a :: l))).length = (a :: l).length := by
        rw [pz.length_eq, ← List.length_map (f := Prod.fst), idxL_fst]
      obtain ⟨σ4, g1, g2, g3, g4⟩ := c_gather (N := N) (π := π) (m := m) (many := ((a :: l).length : Int)) hS many1 h0 many2 (isoL (fun a b : Evt × Int => ltE a.1 b.1) (idxL 0 (a :: l))) N σ3 0 [] (by rw [lz]; simp only [List.length_cons]; omega) hY3 (by
        rw [f3, ← ks1]
        exact AK.of (fun j _ _ => s3 _ j (Or.inr r3)) p5) (fun x hx => by
          have hx := pz.mem_iff.1 hx
          have t1 := at_idx s4 x hx
          have t2 := idxL_mem _ _ _ hx
          have t3 : x.1 ∈ a :: l := by
            have := List.mem_map_of_mem (f := Prod.fst) hx
            rw [idxL_fst] at this
            exact this
          have t4 := hb x.1 t3
          exact ⟨t1, by omega, by omega, t4.1, t4.2⟩) trivial (by simp) (by rw [lz]; omega)
      rw [List.nil_append, iso_fst] at g4
      refine ⟨σ4, ?_, ⟨fun f i x y z => ?_, fun _ => ?_, fun a' j hj => ?_, fun a' j x y hj => ?_⟩, ?_, g4⟩
      · rw [hd2, k1, p1, Es_sort_80, s1, Option.bind_some]
        exact g1
      · rw [g2, s2, p3 f i y z, k2]
      · unfold KY; rw [g2, g2]; exact hY3
      · rw [g3 a' j (by omega), s3 a' j (by omega), p4 a' j (by omega) (by omega), k3 a' j (by rcases hY with ⟨h, -⟩ | ⟨h, -⟩ <;> omega)]
      · rw [g3 a' j (by omega), s3 a' j (by omega), el2 a' j x (by omega)]
      · rw [g2, s2, p3 _ _ (by decide) (by decide), k2]
    · refine ⟨σ, ?_, EF.rf _ _, rfl, by rw [sortE_id (q3 rfl)]; exact ha⟩
      rw [hd, Es_isSorted, bnd, q1, Option.bind_some, grd_t (show i32 1 by decide), if_neg (show ¬ (1 : Int) = 0 by decide)]
end SD
