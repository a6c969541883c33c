/-! letters of words -/
theorem getD_in {r : List Int} {k : Nat} (h : k < r.length) : r.getD k 0 = r[k] := by
  rw [List.getD_eq_getElem?_getD, List.getElem?_eq_getElem h]
  rfl
theorem lo_lp {N : Nat} {l : List Int} (h : okL l) (h8 : l.length ≤ 8) : ∀ (m n : Nat) (i : Int), m < n → i + m = l.length → 0 ≤ i → Ks_lettersOf_2 N n (wd8 l) i = some (l.length : Int)
  | _, 0, _, hm, _, _ => absurd hm (by omega)
  | 0, n + 1, i, _, hi, i0 => by
    rw [Ks_lettersOf_2, grd_t (by exact ⟨by omega, by omega⟩)]
    by_cases c : i < 8
    · rw [if_pos c, wd8_at h h8 i0 c, if_neg (by omega), grd_t (by decide), if_pos rfl]
      congr 1
      omega
    · rw [if_neg c]
      congr 1
      omega
  | m + 1, n + 1, i, hm, hi, i0 => by
    rw [Ks_lettersOf_2, grd_t (by exact ⟨by omega, by omega⟩), if_pos (by omega), wd8_at h h8 i0 (by omega), if_pos (by omega)]
    have hl : i.toNat < l.length := by omega
    have k := h l[i.toNat] (List.getElem_mem hl)
    have g : l.getD i.toNat 0 = l[i.toNat] := by simp [hl]
    rw [g, grd_t (by exact ⟨by omega, by omega⟩), if_neg (by omega)]
    exact lo_lp h h8 m n (i + 1) (by omega) (by omega) (by omega)
theorem c_letters {N : Nat} (hN : 64 ≤ N) {l : List Int} (h : okL l) (h8 : l.length ≤ 8) : Ks_lettersOf N (wd8 l) = some (l.length : Int) := by
  rw [Ks_lettersOf]
  exact lo_lp h h8 l.length N 0 (by omega) (by omega) (by omega)
theorem pkr_b {l : List Int} (h : okL l) (h4 : l.length ≤ 4) : 0 ≤ pkr l ∧ pkr l < 1048576 := by
  have := pkr_lt 4 h h4
  have e : (32 : Int) ^ 4 = 1048576 := by decide
  exact ⟨pkr_0 h, by omega⟩
theorem rl20 {N : Nat} : ∀ (r : List Int) (n : Nat) (x : Int), okL r → r.length ≤ 4 → r.length < n → r_letters_20 N n x (pkr r) = some (x + r.length)
  | _, 0, _, _, _, hn => absurd hn (by omega)
  | [], n + 1, x, _, _, _ => by
    show r_letters_20 N (n + 1) x 0 = _
    rw [r_letters_20, grd_t (by decide), if_pos rfl]
    simp
  | c :: t, n + 1, x, h, h4, hn => by
    obtain ⟨b0, b1⟩ := pkr_b h h4
    have k := h.hd
    have p0 := pkr_0 h.tl
    have e : pkr (c :: t) = pkr t * 32 + c := rfl
    rw [r_letters_20, grd_t (by exact ⟨by omega, by omega⟩), if_neg (by omega), bnd, iushr_5 b0 (by omega), show pkr (c :: t) / 32 = pkr t by omega, rl20 t n (x + 1) h.tl (by simp at h4; omega) (by simp at hn; omega)]
    congr 1
    simp
    omega
theorem rl4 {N : Nat} {b : Int} : ∀ (r : List Int) (n : Nat) (x : Int), okL r → r.length ≤ 4 → r.length < n → r_letters_4 N n b x (pkr r) = r_letters_20 N N (x + r.length) b
  | _, 0, _, _, _, hn => absurd hn (by omega)
  | [], n + 1, x, _, _, _ => by
    show r_letters_4 N (n + 1) b x 0 = _
    rw [r_letters_4, grd_t (by decide), if_pos rfl]
    simp
  | c :: t, n + 1, x, h, h4, hn => by
    obtain ⟨b0, b1⟩ := pkr_b h h4
    have k := h.hd
    have p0 := pkr_0 h.tl
    have e : pkr (c :: t) = pkr t * 32 + c := rfl
    rw [r_letters_4, grd_t (by exact ⟨by omega, by omega⟩), if_neg (by omega), bnd, iushr_5 b0 (by omega), show pkr (c :: t) / 32 = pkr t by omega, rl4 t n (x + 1) h.tl (by simp at h4; omega) (by simp at hn; omega)]
    congr 1
    simp
    omega
theorem r_lets {N : Nat} (hN : 64 ≤ N) {l : List Int} (h : okL l) (h8 : l.length ≤ 8) : r_letters N (pkr (l.take 4).reverse) (pkr (l.drop 4).reverse) = some (l.length : Int) := by
  have a1 : (l.take 4).reverse.length ≤ 4 := by simp; omega
  have a2 : (l.drop 4).reverse.length ≤ 4 := by simp; omega
  rw [r_letters, rl4 _ N 0 (h.take 4).rev a1 (by omega), rl20 _ N _ (h.drop 4).rev a2 (by omega)]
  congr 1
  simp
  omega
theorem pkr_drop : ∀ (i : Nat) {l : List Int}, okL l → pkr l / 32 ^ i = pkr (l.drop i)
  | 0, l, h => by
    show pkr l / 1 = _
    rw [Int.ediv_one]
    rfl
  | i + 1, [], _ => by
    show (0 : Int) / _ = 0
    rw [Int.zero_ediv]
  | i + 1, c :: t, h => by
    have hp : (32 : Int) ^ (i + 1) = 32 * 32 ^ i := by rw [Int.pow_succ, Int.mul_comm]
    have h2 := h.hd
    show (pkr t * 32 + c) / 32 ^ (i + 1) = pkr (t.drop i)
    rw [hp, ← Int.ediv_ediv_of_nonneg (by omega), show (pkr t * 32 + c) / 32 = pkr t by omega]
    exact pkr_drop i h.tl
theorem ishr_5 {w : Int} (k : Int) (w0 : 0 ≤ w) (w1 : w < 2147483648) (k0 : 0 ≤ k) (k1 : k < 4) : ishr w (5 * k) = w / 32 ^ k.toNat := by
  have hw : (Int32.ofInt w).toBitVec.toInt = w := Int32.toInt_ofInt_of_le (by omega) (by omega)
  have key : ∀ m : Nat, ((Int32.ofInt w).toBitVec.sshiftRight m).toInt = w / (2 ^ m : Nat) := fun m => by
    rw [BitVec.toInt_sshiftRight, hw, Int.shiftRight_eq_div_pow]
  unfold ishr
  rcases (show k = 0 ∨ k = 1 ∨ k = 2 ∨ k = 3 by omega) with rfl | rfl | rfl | rfl
  · exact key 0
  · exact key 5
  · exact key 10
  · exact key 15
theorem pkr_at {r : List Int} (h : okL r) (h4 : r.length ≤ 4) {k : Int} (k0 : 0 ≤ k) (k1 : k < r.length) : iand (ishr (pkr r) (5 * k)) 31 = r.getD k.toNat 0 := by
  obtain ⟨b0, b1⟩ := pkr_b h h4
  rw [ishr_5 k b0 (by omega) k0 (by omega), pkr_drop k.toNat h]
  have hl : k.toNat < r.length := by omega
  have d := pkr_b (h.drop k.toNat) (by simp; omega)
  rw [iand_31 d.1 (by omega), List.drop_eq_getElem_cons hl]
  have q := h r[k.toNat] (List.getElem_mem hl)
  have g : r.getD k.toNat 0 = r[k.toNat] := by simp [hl]
  rw [g]
  show (pkr (r.drop (k.toNat + 1)) * 32 + r[k.toNat]) % 32 = _
  omega
/-- letter i of a word, of both -/
theorem c_letAt {l : List Int} (h : okL l) (h8 : l.length ≤ 8) {i : Int} (i0 : 0 ≤ i) (i1 : i < l.length) : land (lushr (wd8 l) (8 * i)) 255 = l.getD i.toNat 0 + 96 := by
  rw [wd8_at h h8 i0 (by omega), if_pos i1]
theorem r_letAt {N : Nat} (hN : 64 ≤ N) {l : List Int} (h : okL l) (h8 : l.length ≤ 8) {i : Int} (hi : i32 i) : r_letterAt N (pkr (l.take 4).reverse) (pkr (l.drop 4).reverse) i = some (if 0 ≤ i ∧ i < l.length then l.getD i.toNat 0 + 96 else -1) := by
  rw [r_letterAt, r_lets hN h h8]
  show grd (i32 i) _ = _
  rw [grd_t hi]
  by_cases c : 0 ≤ i ∧ i < l.length
  · rw [if_neg (by omega), grd_t (by exact ⟨by omega, by omega⟩), if_pos c.2, if_pos c]
    have a1 : (l.take 4).reverse.length ≤ 4 := by simp; omega
    have a2 : (l.drop 4).reverse.length ≤ 4 := by simp; omega
    have key : ∀ s0 : Int, s0 = (if (l.length : Int) < 4 then (l.length : Int) else 4) → r_letterAt_27 N (pkr (l.take 4).reverse) (pkr (l.drop 4).reverse) i (l.length : Int) s0 = some (l.getD i.toNat 0 + 96) := fun s0 hs => by
      have hl : i.toNat < l.length := by omega
      have s1 : s0 = ((l.take 4).length : Int) := by
        rw [hs, List.length_take]
        split <;> omega
      rw [r_letterAt_27, grd_t hi, grd_t (by exact ⟨by rw [s1]; omega, by rw [s1, List.length_take]; omega⟩)]
      by_cases d : i < s0
      · rw [if_pos d, r_letterAt_57, pkr_at (h.take 4).rev a1 (by omega) (by rw [List.length_reverse]; omega)]
        congr 1
        rw [Int.add_comm]
        congr 1
        have q : (s0 - 1 - i).toNat < (l.take 4).reverse.length := by rw [List.length_reverse]; omega
        have e : (l.take 4).reverse.getD (s0 - 1 - i).toNat 0 = (l.take 4).reverse[(s0 - 1 - i).toNat] := getD_in q
        rw [e, List.getElem_reverse, List.getElem_take]
        have e2 : l.getD i.toNat 0 = l[i.toNat] := by simp [hl]
        rw [e2]
        congr 1
        omega
      · have t4 : ((l.take 4).length : Int) = 4 ∧ 4 ≤ l.length := by
          rw [List.length_take]
          rw [List.length_take] at s1
          omega
        have dl : (l.drop 4).length = l.length - 4 := List.length_drop
        rw [if_neg d, r_letterAt_57, pkr_at (h.drop 4).rev a2 (by omega) (by rw [List.length_reverse, dl]; omega)]
        congr 1
        rw [Int.add_comm]
        congr 1
        have q : ((l.length : Int) - 1 - i).toNat < (l.drop 4).reverse.length := by rw [List.length_reverse, dl]; omega
        have e : (l.drop 4).reverse.getD ((l.length : Int) - 1 - i).toNat 0 = (l.drop 4).reverse[((l.length : Int) - 1 - i).toNat] := getD_in q
        rw [e, List.getElem_reverse, List.getElem_drop]
        have e2 : l.getD i.toNat 0 = l[i.toNat] := by simp [hl]
        rw [e2]
        congr 1
        rw [dl]
        omega
    by_cases s : (l.length : Int) < 4
    · rw [if_pos s]
      exact key _ (by rw [if_pos s])
    · rw [if_neg s]
      exact key _ (by rw [if_neg s])
  · rw [if_neg c]
    by_cases d : i < 0
    · rw [if_pos d]
    · rw [if_neg d, grd_t (by exact ⟨by omega, by omega⟩), if_neg (by omega)]
