/-! what is heard: the reference's beats, their order, hearing them -/
def HB (τ : St) (k : Int) (h : Ht) : Prop := el τ 9 k = h.1 ∧ el τ 8 k = h.2.2.1 ∧ el τ 7 k = h.2.2.2.1 ∧ el τ 6 k = h.2.2.2.2.1 ∧ el τ 5 k = h.2.2.2.2.2.1 ∧ el τ 4 k = h.2.2.2.2.2.2.1 ∧ el τ 3 k = h.2.2.2.2.2.2.2.1 ∧ el τ 2 k = h.2.2.2.2.2.2.2.2
def HH (τ : St) (k : Int) (h : Ht) : Prop := el τ 18 k = h.1 ∧ el τ 17 k = h.2.1 ∧ el τ 16 k = h.2.2.1 ∧ el τ 15 k = h.2.2.2.1 ∧ el τ 14 k = h.2.2.2.2.1 ∧ el τ 13 k = h.2.2.2.2.2.1 ∧ el τ 12 k = h.2.2.2.2.2.2.1 ∧ el τ 11 k = h.2.2.2.2.2.2.2.1 ∧ el τ 10 k = h.2.2.2.2.2.2.2.2
theorem HB.fr {τ τ' : St} {k : Int} {h : Ht} (e : ∀ a, 2 ≤ a → a ≤ 9 → el τ' a k = el τ a k) (hb : HB τ k h) : HB τ' k h := by
  unfold HB at hb ⊢
  rw [e 9 (by decide) (by decide), e 8 (by decide) (by decide), e 7 (by decide) (by decide), e 6 (by decide) (by decide), e 5 (by decide) (by decide), e 4 (by decide) (by decide), e 3 (by decide) (by decide), e 2 (by decide) (by decide)]
  exact hb
theorem HH.fr {τ τ' : St} {k : Int} {h : Ht} (e : ∀ a, 10 ≤ a → a ≤ 18 → el τ' a k = el τ a k) (hb : HH τ k h) : HH τ' k h := by
  unfold HH at hb ⊢
  rw [e 18 (by decide) (by decide), e 17 (by decide) (by decide), e 16 (by decide) (by decide), e 15 (by decide) (by decide), e 14 (by decide) (by decide), e 13 (by decide) (by decide), e 12 (by decide) (by decide), e 11 (by decide) (by decide), e 10 (by decide) (by decide)]
  exact hb
theorem RE.of2 {τ τ' : St} {l : List Evt} {a : Int} (h : ∀ b j, 47 ≤ b → b ≤ 52 → el τ' b j = el τ b j) (k : At (RE τ) a l) : At (RE τ') a l := k.mono (fun i e _ _ _ h1 => by
  unfold RE at h1 ⊢
  rw [h 52 i (by decide) (by decide), h 51 i (by decide) (by decide), h 50 i (by decide) (by decide), h 49 i (by decide) (by decide), h 48 i (by decide) (by decide), h 47 i (by decide) (by decide)]
  exact h1)
/-- a place in the order: which beat, and what it is -/
abbrev Px : Type := Int × Ht
def OR (τ : St) (j : Int) (x : Px) : Prop := el τ 1 j = x.1 ∧ (0 ≤ x.1 ∧ x.1 < 3300) ∧ HB τ x.1 x.2
def ltP (a b : Px) : Bool := ltH a.2 b.2
theorem OR.of {τ τ' : St} {l : List Px} {a : Int} (h2 : ∀ b j, 2 ≤ b → b ≤ 9 → el τ' b j = el τ b j) (h1 : ∀ j, a ≤ j → j < a + l.length → el τ' 1 j = el τ 1 j) (k : At (OR τ) a l) : At (OR τ') a l := k.mono (fun i e a1 a2 _ hx => ⟨(h1 i a1 a2).trans hx.1, hx.2.1, HB.fr (fun b x y => h2 b _ x y) hx.2.2⟩)
section RA
variable {N : Nat}
theorem r_arr_ins {rec2 : St → Int → Option St} {x : Px} (hx : (0 ≤ x.1 ∧ x.1 < 3300) ∧ okH x.2) : ∀ (n : Nat) (K R : List Px) (τ : St), K.length < n → At (OR τ) 0 K → At (OR τ) (K.length + 1) R → HB τ x.1 x.2 → (∀ e ∈ K, okH e.2) → (∀ e ∈ R, ltP x e = true) → K.Pairwise (fun a b => ltP b a = false) → (K.length : Int) + 1 + R.length ≤ 3300 → ∃ τ', r_arrange_12 N rec2 n τ x.1 K.length = rec2 τ' (x.1 + 1) ∧ (∀ f j, fl τ' f j = fl τ f j) ∧ (∀ a j, a ≠ 1 ∨ (K.length : Int) + R.length < j → el τ' a j = el τ a j) ∧ At (OR τ') 0 (insL ltP x (K ++ R)) := by
  intro n
  induction n with
  | zero => intro K R τ h; omega
  | succ n ih =>
    intro K R τ hn hK hR hX bK bR pK h2
    have fin : (∀ e ∈ K, ltP x e = false) → ∃ τ', r_arrange_82 N rec2 τ x.1 K.length = rec2 τ' (x.1 + 1) ∧ (∀ f j, fl τ' f j = fl τ f j) ∧ (∀ a j, a ≠ 1 ∨ (K.length : Int) + R.length < j → el τ' a j = el τ a j) ∧ At (OR τ') 0 (insL ltP x (K ++ R)) := by
      intro hc
      have fr : ∀ a j : Int, a ≠ 1 ∨ j ≠ K.length → el (se τ 1 K.length x.1) a j = el τ a j := fun a j h => by rw [el_se, if_neg (by omega)]
      refine ⟨se τ 1 K.length x.1, ?_, fun _ _ => rfl, fun a j h => fr a j (by omega), ?_⟩
      · rw [r_arrange_82, grd_t (by exact ⟨by omega, by omega⟩)]
      · have hi : insL ltP x (K ++ R) = K ++ x :: R := by
          cases R with
          | nil => rw [List.append_nil, insL_end hc]
          | cons y R => exact insL_mid hc (bR y (by simp))
        rw [hi]
        refine At.app (OR.of (fun b j x y => fr b j (by omega)) (fun j j0 j1 => fr 1 j (by omega)) hK) ⟨⟨?_, hx.1, ?_⟩, ?_⟩
        · rw [Int.zero_add]; exact el_ses _ _ _ _
        · exact HB.fr (fun a x y => fr a _ (by omega)) hX
        · rw [Int.zero_add]
          exact OR.of (fun b j x y => fr b j (by omega)) (fun j j0 j1 => fr 1 j (by omega)) hR
    by_cases hk : K = []
    · subst hk
      obtain ⟨τ', q1, q2, q3, q4⟩ := fin (by simp)
      refine ⟨τ', ?_, q2, q3, q4⟩
      rw [← q1]
      show r_arrange_12 N rec2 (n + 1) τ x.1 0 = r_arrange_82 N rec2 τ x.1 0
      rw [r_arrange_12, grd_t (by decide), if_neg (by decide)]
    · obtain ⟨K', y, rfl⟩ : ∃ K' y, K = K' ++ [y] := ⟨K.dropLast, K.getLast hk, (List.dropLast_concat_getLast hk).symm⟩
      have len : ((K' ++ [y]).length : Int) = K'.length + 1 := by simp
      have len' : (K' ++ [y]).length = K'.length + 1 := by simp
      have hy : OR τ K'.length y := by
        have := hK.rt.1
        rw [Int.zero_add] at this
        exact this
      obtain ⟨y1, ⟨y2, y3⟩, y4⟩ := hy
      obtain ⟨-, -, ⟨yg1, yg2⟩, ⟨yb1, yb2⟩, -, -⟩ := bK y (by simp)
      obtain ⟨⟨x2, x3⟩, -, -, ⟨xg1, xg2⟩, ⟨xb1, xb2⟩, -, -⟩ := hx
      have m1 : 0 ≤ y.2.2.2.2.1 * x.2.2.2.1 := Int.mul_nonneg yb1 (by omega)
      have m2 : y.2.2.2.2.1 * x.2.2.2.1 ≤ 1000000 * 1000000 := Int.mul_le_mul (by omega) xg2 (by omega) (by omega)
      have m3 : 0 ≤ x.2.2.2.2.1 * y.2.2.2.1 := Int.mul_nonneg xb1 (by omega)
      have m4 : x.2.2.2.2.1 * y.2.2.2.1 ≤ 1000000 * 1000000 := Int.mul_le_mul (by omega) yg2 (by omega) (by omega)
      rw [len] at h2 hR
      have st : r_arrange_12 N rec2 (n + 1) τ x.1 (K' ++ [y]).length = if x.2.2.2.2.1 * y.2.2.2.1 < y.2.2.2.2.1 * x.2.2.2.1 then r_arrange_12 N rec2 n (se τ 1 (K'.length + 1) y.1) x.1 K'.length else r_arrange_82 N rec2 τ x.1 (K' ++ [y]).length := by
        rw [len, r_arrange_12, grd_t (by exact ⟨by omega, by omega⟩), if_pos (by omega), show (K'.length : Int) + 1 - 1 = K'.length by omega, grd_t (by exact ⟨by omega, by omega⟩), y1, grd_t (by exact ⟨y2, y3⟩), grd_t (by exact ⟨x2, x3⟩), hX.2.1, hX.2.2.1, y4.2.1, y4.2.2.1, grd_t (by exact ⟨by omega, by omega⟩), grd_t (by exact ⟨by omega, by omega⟩), grd_t (by exact ⟨by omega, by omega⟩), grd_t (by exact ⟨by omega, by omega⟩), grd_t (by exact ⟨by omega, by omega⟩), show (K'.length : Int) + 1 + -1 = K'.length by omega]
      have hsp := List.pairwise_append.1 pK
      by_cases c : x.2.2.2.2.1 * y.2.2.2.1 < y.2.2.2.2.1 * x.2.2.2.1
      · have fr : ∀ a j : Int, a ≠ 1 ∨ j ≠ K'.length + 1 → el (se τ 1 (K'.length + 1) y.1) a j = el τ a j := fun a j h => by rw [el_se, if_neg (by omega)]
        obtain ⟨τ', q1, q2, q3, q4⟩ := ih K' (y :: R) (se τ 1 (K'.length + 1) y.1) (by omega) (OR.of (fun b j x y => fr b j (by omega)) (fun j j0 j1 => fr 1 j (by omega)) hK.l) ⟨⟨el_ses _ _ _ _, ⟨y2, y3⟩, HB.fr (fun a x y => fr a _ (by omega)) y4⟩, OR.of (fun b j x y => fr b j (by omega)) (fun j j0 j1 => fr 1 j (by omega)) hR⟩ (HB.fr (fun a x y => fr a _ (by omega)) hX) (fun e he => bK e (by simp [he])) (fun e he => by
            rcases List.mem_cons.1 he with rfl | he
            · exact decide_eq_true c
            · exact bR e he) hsp.1 (by simp only [List.length_cons]; omega)
        refine ⟨τ', by rw [st, if_pos c]; exact q1, q2, fun a j h => ?_, ?_⟩
        · rw [q3 a j (by simp only [List.length_cons]; omega), fr a j (by omega)]
        · rw [List.append_assoc]
          exact q4
      · obtain ⟨τ', q1, q2, q3, q4⟩ := fin (by
          intro e he
          have hxy : ltP x y = false := decide_eq_false c
          rcases List.mem_append.1 he with he' | he'
          · exact leH_trans (bK e he).2.2.1.1 yg1 xg1 (hsp.2.2 e he' y (by simp)) hxy
          · rw [List.mem_singleton.1 he']; exact hxy)
        refine ⟨τ', by rw [st, if_neg c]; exact q1, q2, fun a j h => q3 a j (by omega), q4⟩
/-- places 0, 1, .. -/
def pxL : Int → List Ht → List Px
  | _, [] => []
  | i, h :: l => (i, h) :: pxL (i + 1) l
theorem pxL_snd : ∀ (l : List Ht) (i : Int), (pxL i l).map Prod.snd = l
  | [], _ => rfl
  | h :: l, i => by rw [pxL, List.map_cons, pxL_snd l]
theorem pxL_len : ∀ (l : List Ht) (i : Int), (pxL i l).length = l.length
  | [], _ => rfl
  | h :: l, i => by rw [pxL, List.length_cons, List.length_cons, pxL_len l]
theorem pxL_mem : ∀ {l : List Ht} {i : Int} {x : Px}, x ∈ pxL i l → (i ≤ x.1 ∧ x.1 < i + l.length) ∧ x.2 ∈ l
  | [], _, _, h => by cases h
  | h :: l, i, x, hx => by
    rcases List.mem_cons.1 hx with rfl | hx
    · simp only [List.length_cons]; exact ⟨⟨Int.le_refl _, by show i < _; omega⟩, by simp⟩
    · obtain ⟨⟨a, b⟩, c⟩ := pxL_mem hx
      simp only [List.length_cons]
      exact ⟨⟨by omega, by omega⟩, by simp [c]⟩
theorem isoP_srt {A B : List Px} (h : (A.map Prod.snd).Pairwise (fun a b => ltH b a = false)) (hg : ∀ y ∈ A ++ B, 1 ≤ y.2.2.2.1) : (isoA ltP A B).Pairwise (fun a b => ltP b a = false) := by
  have k : SrtH ((isoA ltP A B).map Prod.snd) := by
    rw [isoA_map ltH ltP Prod.snd (fun a b => rfl)]
    exact isoH_srt h (fun y hy => by
      rw [← List.map_append] at hy
      obtain ⟨z, hz, rfl⟩ := List.mem_map.1 hy
      exact hg z hz)
  exact List.pairwise_map.1 k
theorem r_arr_lp {H : List Ht} (hN : 4000 ≤ N) (hl : H.length ≤ 3300) : ∀ (l : List Ht) (n : Nat) (τ : St) (K : List Px), l.length < n → At (OR τ) 0 K → At (HB τ) K.length l → K.Pairwise (fun a b => ltP b a = false) → (∀ e ∈ K, okH e.2) → (∀ h ∈ l, okH h) → (K.length : Int) + l.length = H.length → fl τ 139 0 = H.length → ∃ τ', r_arrange_2 N n τ K.length = some τ' ∧ (∀ f j, fl τ' f j = fl τ f j) ∧ (∀ a j, a ≠ 1 → el τ' a j = el τ a j) ∧ At (OR τ') 0 (isoA ltP K (pxL K.length l))
  | [], n + 1, τ, K, _, hK, _, _, _, _, h1, h2 => by
    simp only [List.length_nil] at h1
    refine ⟨τ, ?_, fun _ _ => rfl, fun _ _ _ => rfl, hK⟩
    rw [r_arrange_2, grd_t (by exact ⟨by omega, by omega⟩), grd_t (by exact ⟨by omega, by omega⟩), if_neg (by omega)]
  | h :: l, n + 1, τ, K, hn, hK, hB, pK, bK, bl, h1, h2 => by
    simp only [List.length_cons] at h1 hn
    have hx : (0 ≤ (K.length : Int) ∧ (K.length : Int) < 3300) ∧ okH h := ⟨⟨by omega, by omega⟩, bl h (by simp)⟩
    obtain ⟨τ1, p1, p2, p3, p4⟩ := r_arr_ins (N := N) (rec2 := r_arrange_2 N n) (x := ((K.length : Int), h)) hx N K [] τ (by omega) hK trivial hB.1 bK (by simp) pK (by simp only [List.length_nil]; omega)
    rw [List.append_nil] at p4
    have il : ((insL ltP ((K.length : Int), h) K).length : Int) = K.length + 1 := by rw [insL_len]; omega
    obtain ⟨τ', q1, q2, q3, q4⟩ := r_arr_lp hN hl l n τ1 (insL ltP ((K.length : Int), h) K) (by omega) p4 (by
        rw [il]
        exact hB.2.mono (fun i e _ _ _ he => HB.fr (fun a x y => p3 a i (by omega)) he)) (isoP_srt (A := K) (B := [((K.length : Int), h)]) (List.pairwise_map.2 pK) (fun y hy => by
        rcases List.mem_append.1 hy with hy | hy
        · exact (bK y hy).2.2.1.1
        · rw [List.mem_singleton.1 hy]; exact hx.2.2.2.1.1)) (fun e he => by
        rcases List.mem_cons.1 ((insL_perm ltP _ K).mem_iff.1 he) with rfl | he
        · exact hx.2
        · exact bK e he) (fun e he => bl e (by simp [he])) (by omega) (by rw [p2]; exact h2)
    refine ⟨τ', ?_, fun f j => (q2 f j).trans (p2 f j), fun a j ha => (q3 a j ha).trans (p3 a j (Or.inl ha)), ?_⟩
    · rw [r_arrange_2, grd_t (by exact ⟨by omega, by omega⟩), grd_t (by exact ⟨by omega, by omega⟩), if_pos (by omega), p1]
      rw [il] at q1
      exact q1
    · rw [il] at q4
      rw [pxL, isoA]
      exact q4
/-- hearing them -/
theorem r_hear_lp {F : Nat} {H : Int} (hH : 0 ≤ H ∧ H ≤ 3300) {c : Int} : ∀ (l : List Px) (n : Nat) (τ : St) (K : List Ht) (i : Int), l.length < n → At (OR τ) i l → At (HH τ) F K → fl τ 129 0 = F + K.length → F + K.length ≤ 400 → fl τ 115 0 = c → 0 ≤ i → i + l.length = H → fl τ 139 0 = H → (∀ x ∈ l, x.2.2.1 = c) → ∃ τ', r_beat_287 N n τ i = some (τ', H) ∧ (∀ f j, f ≠ 129 → fl τ' f j = fl τ f j) ∧ (∀ a j : Int, a < 10 ∨ 18 < a ∨ j < F → el τ' a j = el τ a j) ∧ fl τ' 129 0 = F + ((K ++ l.map Prod.snd).take (400 - F)).length ∧ At (HH τ') F ((K ++ l.map Prod.snd).take (400 - F))
  | [], n + 1, τ, K, i, _, _, hK, h1, h2, h3, i0, h4, h5, _ => by
    simp only [List.length_nil] at h4
    have e : (K ++ ([] : List Px).map Prod.snd).take (400 - F) = K := by
      rw [List.map_nil, List.append_nil]
      exact List.take_of_length_le (by omega)
    rw [e]
    refine ⟨τ, ?_, fun _ _ _ => rfl, fun _ _ _ => rfl, h1, hK⟩
    rw [r_beat_287, grd_t (by exact ⟨by omega, by omega⟩), grd_t (by exact ⟨by omega, by omega⟩), if_neg (by omega), r_beat_321, h5]
  | x :: l, n + 1, τ, K, i, hn, hl, hK, h1, h2, h3, i0, h4, h5, hc => by
    simp only [List.length_cons] at h4 hn
    obtain ⟨⟨x1, ⟨x2, x3⟩, x4⟩, xl⟩ := hl
    by_cases c4 : F + K.length < 400
    · have fr : ∀ a j : Int, a < 10 ∨ 18 < a ∨ j ≠ F + K.length → el (sf (se (se (se (se (se (se (se (se (se τ 18 (F + K.length) (el τ 9 x.1)) 17 (F + K.length) c) 16 (F + K.length) (el τ 8 x.1)) 15 (F + K.length) (el τ 7 x.1)) 14 (F + K.length) (el τ 6 x.1)) 13 (F + K.length) (el τ 5 x.1)) 12 (F + K.length) (el τ 4 x.1)) 11 (F + K.length) (el τ 3 x.1)) 10 (F + K.length) (el τ 2 x.1)) 129 0 (F + K.length + 1)) a j = el τ a j := fun a j h => by
        simp only [el_sf, el_se]
        rw [if_neg (by omega), if_neg (by omega), if_neg (by omega), if_neg (by omega), if_neg (by omega), if_neg (by omega), if_neg (by omega), if_neg (by omega), if_neg (by omega)]
      have kk : ((K ++ [x.2]).length : Int) = K.length + 1 := by simp
      have kk' : (K ++ [x.2]).length = K.length + 1 := by simp
      obtain ⟨τ', q1, q2, q3, q4, q5⟩ := r_hear_lp (F := F) hH (c := c) l n (sf (se (se (se (se (se (se (se (se (se τ 18 (F + K.length) (el τ 9 x.1)) 17 (F + K.length) c) 16 (F + K.length) (el τ 8 x.1)) 15 (F + K.length) (el τ 7 x.1)) 14 (F + K.length) (el τ 6 x.1)) 13 (F + K.length) (el τ 5 x.1)) 12 (F + K.length) (el τ 4 x.1)) 11 (F + K.length) (el τ 3 x.1)) 10 (F + K.length) (el τ 2 x.1)) 129 0 (F + K.length + 1)) (K ++ [x.2]) (i + 1) (by omega) (OR.of (fun b j u v => fr b j (by omega)) (fun j _ _ => fr 1 j (by omega)) xl) (At.snoc (hK.mono (fun j e _ j1 _ he => HH.fr (fun a u v => fr a j (by omega)) he)) (by
          obtain ⟨b1, b2, b3, b4, b5, b6, b7, b8⟩ := x4
          unfold HH
          simp only [el_sf, el_se]
          refine ⟨b1, ?_, b2, b3, b4, b5, b6, b7, b8⟩
          exact (hc x (by simp)).symm)) (by rw [fl_sfs, kk]; omega) (by omega) (by rw [fl_sfn _ _ _ _ (by decide)]; exact h3) (by omega) (by omega) (by rw [fl_sfn _ _ _ _ (by decide)]; exact h5) (fun y hy => hc y (by simp [hy]))
      have e : (K ++ [x.2]) ++ l.map Prod.snd = K ++ (x :: l).map Prod.snd := by rw [List.append_assoc]; rfl
      rw [e] at q4 q5
      refine ⟨τ', ?_, fun f j hf => by rw [q2 f j hf, fl_sfn _ _ _ _ hf]; rfl, fun a j h => by rw [q3 a j h, fr a j (by omega)], q4, q5⟩
      rw [r_beat_287, grd_t (by exact ⟨by omega, by omega⟩), grd_t (by exact ⟨by omega, by omega⟩), if_pos (by omega), h1, grd_t (by exact ⟨by omega, by omega⟩), if_pos (by omega), grd_t (by exact ⟨by omega, by omega⟩), x1, r_hear, grd_t (by exact ⟨x2, x3⟩), h1, h3, grd_t (by exact ⟨by omega, by omega⟩), Option.bind_some]
      exact q1
    · have e : (K ++ (x :: l).map Prod.snd).take (400 - F) = K := by
        rw [List.take_append, show 400 - F - K.length = 0 by omega, List.take_zero, List.append_nil]
        exact List.take_of_length_le (by omega)
      rw [e]
      refine ⟨τ, ?_, fun _ _ _ => rfl, fun _ _ _ => rfl, h1, hK⟩
      rw [r_beat_287, grd_t (by exact ⟨by omega, by omega⟩), grd_t (by exact ⟨by omega, by omega⟩), if_pos (by omega), h1, grd_t (by exact ⟨by omega, by omega⟩), if_neg (by omega), r_beat_321, h5]
/-- which events of a row are of a beat -/
def inH (lo hi g : Int) (e : Evt) : Bool := decide (lo * g ≤ e.1 * 960 ∧ e.1 * 960 < hi * g)
theorem r_beats_lp {rec7 : St → Int → Int → Int → Option (St × Int)} {lo hi t p c g : Int} (hlo : 0 ≤ lo ∧ lo ≤ 960) (hhi : 0 ≤ hi ∧ hi ≤ 960) (hp : 0 ≤ p ∧ p < 103000) (hg : 1 ≤ g ∧ g ≤ 1000000) (hc : i32 c) : ∀ (l : List Evt) (n : Nat) (τ : St) (H : List Ht) (i : Int), l.length < n → At (RE τ) i (ab (c * g) l) → At (HB τ) 0 H → fl τ 139 0 = H.length → (H.length : Int) + l.length ≤ 3300 → 0 ≤ i → i + l.length = fl τ 84 0 → fl τ 84 0 ≤ 29999 → fl τ 115 0 = c → el τ 63 p = g → (∀ e ∈ l, 0 ≤ e.1 ∧ e.1 ≤ 1000000) → ∃ τ', r_beat_56 N rec7 n τ lo hi t p i = rec7 τ' lo hi (t + 1) ∧ (∀ f j, f ≠ 139 → fl τ' f j = fl τ f j) ∧ (∀ a j, a < 2 ∨ 9 < a → el τ' a j = el τ a j) ∧ fl τ' 139 0 = (H ++ (l.filter (inH lo hi g)).map (fun e => ((t, c, g, e) : Ht))).length ∧ At (HB τ') 0 (H ++ (l.filter (inH lo hi g)).map (fun e => ((t, c, g, e) : Ht))) := by
  intro l
  induction l with
  | nil =>
    intro n τ H i hn _ hH h1 _ i0 h3 h4 h5 h6 _
    cases n with
    | zero => exact absurd hn (by omega)
    | succ n =>
      simp only [List.length_nil] at h3
      refine ⟨τ, ?_, fun _ _ _ => rfl, fun _ _ _ => rfl, by rw [List.filter_nil, List.map_nil, List.append_nil]; exact h1, by rw [List.filter_nil, List.map_nil, List.append_nil]; exact hH⟩
      rw [r_beat_56, grd_t (by exact ⟨by omega, by omega⟩), grd_t (by exact ⟨by omega, by omega⟩), if_neg (by omega), r_beat_275]
  | cons x l ih =>
    intro n τ H i hn hl hH h1 h2 i0 h3 h4 h5 h6 hb
    cases n with
    | zero => exact absurd hn (by omega)
    | succ n =>
      simp only [List.length_cons] at h2 h3 hn
      obtain ⟨⟨x1, x2, x3, x4, x5, x6⟩, xl⟩ := hl
      simp only at x1 x2 x3 x4 x5 x6
      obtain ⟨b1, b2⟩ := hb x (by simp)
      have m1 : 0 ≤ lo * g := Int.mul_nonneg hlo.1 (by omega)
      have m2 : lo * g ≤ 960 * 1000000 := Int.mul_le_mul hlo.2 hg.2 (by omega) (by omega)
      have m3 : 0 ≤ hi * g := Int.mul_nonneg hhi.1 (by omega)
      have m4 : hi * g ≤ 960 * 1000000 := Int.mul_le_mul hhi.2 hg.2 (by omega) (by omega)
      have sk : ¬ inH lo hi g x = true → r_beat_56 N rec7 (n + 1) τ lo hi t p i = r_beat_56 N rec7 n τ lo hi t p (i + 1) := fun hc' => by
        have hc'' : ¬ (lo * g ≤ x.1 * 960 ∧ x.1 * 960 < hi * g) := fun k => hc' (decide_eq_true k)
        rw [r_beat_56, grd_t (by exact ⟨by omega, by omega⟩), grd_t (by exact ⟨by omega, by omega⟩), if_pos (by omega), grd_t (by exact ⟨by omega, by omega⟩), h5, grd_t hc, grd_t (by exact ⟨by omega, by omega⟩), h6, grd_t (by exact ⟨by omega, by omega⟩), bnd, x1, show x.1 + c * g - c * g = x.1 by omega, grd_t (by exact ⟨by omega, by omega⟩), grd_t (by exact ⟨by omega, by omega⟩), grd_t (by exact ⟨by omega, by omega⟩)]
        by_cases d : x.1 * 960 < lo * g
        · rw [if_pos d, r_beat_269]
        · rw [if_neg d, grd_t (by exact ⟨by omega, by omega⟩), grd_t (by exact ⟨by omega, by omega⟩), if_neg (by omega), r_beat_269]
      by_cases ci : inH lo hi g x = true
      · have ci' : lo * g ≤ x.1 * 960 ∧ x.1 * 960 < hi * g := of_decide_eq_true ci
        have fr : ∀ a j : Int, a < 2 ∨ 9 < a ∨ j ≠ H.length → el (sf (se (se (se (se (se (se (se (se τ 9 H.length t) 8 H.length g) 7 H.length x.1) 6 H.length (el τ 51 i - el τ 52 i)) 5 H.length (el τ 50 i)) 4 H.length (el τ 49 i)) 3 H.length (el τ 48 i)) 2 H.length (el τ 47 i)) 139 0 (H.length + 1)) a j = el τ a j := fun a j h => by
          simp only [el_sf, el_se]
          rw [if_neg (by omega), if_neg (by omega), if_neg (by omega), if_neg (by omega), if_neg (by omega), if_neg (by omega), if_neg (by omega), if_neg (by omega)]
        have kk : ((H ++ [((t, c, g, x) : Ht)]).length : Int) = H.length + 1 := by simp
        obtain ⟨τ', q1, q2, q3, q4, q5⟩ := ih n (sf (se (se (se (se (se (se (se (se τ 9 H.length t) 8 H.length g) 7 H.length x.1) 6 H.length (el τ 51 i - el τ 52 i)) 5 H.length (el τ 50 i)) 4 H.length (el τ 49 i)) 3 H.length (el τ 48 i)) 2 H.length (el τ 47 i)) 139 0 (H.length + 1)) (H ++ [(t, c, g, x)]) (i + 1) (by omega) (RE.of2 (fun b j u v => fr b j (by omega)) xl) (At.snoc (hH.mono (fun j e _ j1 _ he => HB.fr (fun a u v => fr a j (by omega)) he)) (by
            rw [Int.zero_add]
            unfold HB
            simp only [el_sf, el_se]
            refine ⟨rfl, rfl, rfl, ?_, x3, x4, x5, x6⟩
            show el τ 51 i - el τ 52 i = x.2.1
            omega)) (by rw [fl_sfs, kk]) (by omega) (by omega) (by rw [fl_sfn _ _ _ _ (by decide)]; show i + 1 + _ = fl τ 84 0; omega) (by rw [fl_sfn _ _ _ _ (by decide)]; exact h4) (by rw [fl_sfn _ _ _ _ (by decide)]; exact h5) (by rw [fr 63 p (by omega)]; exact h6) (fun e he => hb e (by simp [he]))
        have e : (H ++ [((t, c, g, x) : Ht)]) ++ (l.filter (inH lo hi g)).map (fun e => ((t, c, g, e) : Ht)) = H ++ ((x :: l).filter (inH lo hi g)).map (fun e => ((t, c, g, e) : Ht)) := by
          rw [List.filter_cons, if_pos ci, List.append_assoc]; rfl
        rw [e] at q4 q5
        refine ⟨τ', ?_, fun f j hf => by rw [q2 f j hf, fl_sfn _ _ _ _ hf]; rfl, fun a j h => by rw [q3 a j h, fr a j (by omega)], q4, q5⟩
        rw [r_beat_56, grd_t (by exact ⟨by omega, by omega⟩), grd_t (by exact ⟨by omega, by omega⟩), if_pos (by omega), grd_t (by exact ⟨by omega, by omega⟩), h5, grd_t hc, grd_t (by exact ⟨by omega, by omega⟩), h6, grd_t (by exact ⟨by omega, by omega⟩), bnd, x1, show x.1 + c * g - c * g = x.1 by omega, grd_t (by exact ⟨by omega, by omega⟩), grd_t (by exact ⟨by omega, by omega⟩), grd_t (by exact ⟨by omega, by omega⟩), if_neg (by omega), grd_t (by exact ⟨by omega, by omega⟩), grd_t (by exact ⟨by omega, by omega⟩), if_pos (by omega), h1, grd_t (by exact ⟨by omega, by omega⟩), r_beat_269]
        rw [x1] at q1
        exact q1
      · obtain ⟨τ', q1, q2, q3, q4, q5⟩ := ih n τ H (i + 1) (by omega) xl hH h1 (by omega) (by omega) (by omega) h4 h5 h6 (fun e he => hb e (by simp [he]))
        have e : (x :: l).filter (inH lo hi g) = l.filter (inH lo hi g) := by rw [List.filter_cons, if_neg ci]
        rw [e]
        exact ⟨τ', by rw [sk ci]; exact q1, q2, q3, q4, q5⟩
end RA
