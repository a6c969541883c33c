/-! letters of a word, both -/
theorem lshl_8 {b : Int} (i : Int) (b0 : 0 ≤ b) (b1 : b < 128) (i0 : 0 ≤ i) (i1 : i < 8) : lshl b (8 * i) = b * 256 ^ i.toNat := by
  have key : ∀ (m : Int64) (k : Nat), (Int64.ofInt b <<< m).toUInt64 = (Int64.ofInt b).toUInt64 <<< m.toUInt64 → m.toUInt64.toNat % 64 = k → k ≤ 56 → (Int64.ofInt b <<< m).toInt = b * (2 ^ k : Nat) := fun m k hs hm hk => by
    have p : (2 : Nat) ^ k ≤ 72057594037927936 := by
      have : (2 : Nat) ^ k ≤ 2 ^ 56 := Nat.pow_le_pow_right (by decide) hk
      omega
    have bp : b.toNat * 2 ^ k ≤ 127 * 72057594037927936 := Nat.mul_le_mul (by omega) p
    have e : (Int64.ofInt b <<< m).toUInt64.toNat = b.toNat * 2 ^ k := by
      rw [hs, UInt64.toNat_shiftLeft, hm, u64_of b0 (by omega), Nat.shiftLeft_eq]
      omega
    have e2 := i64_of (u := (Int64.ofInt b <<< m).toUInt64) (by omega)
    have e3 : (Int64.ofInt b <<< m).toInt = ((Int64.ofInt b <<< m).toUInt64.toNat : Int) := e2
    rw [e3, e]
    obtain ⟨a, rfl⟩ := Int.eq_ofNat_of_zero_le b0
    simp
  unfold lshl
  rcases (show i = 0 ∨ i = 1 ∨ i = 2 ∨ i = 3 ∨ i = 4 ∨ i = 5 ∨ i = 6 ∨ i = 7 by omega) with rfl | rfl | rfl | rfl | rfl | rfl | rfl | rfl
  · exact key _ 0 rfl (by decide) (by decide)
  · exact key _ 8 rfl (by decide) (by decide)
  · exact key _ 16 rfl (by decide) (by decide)
  · exact key _ 24 rfl (by decide) (by decide)
  · exact key _ 32 rfl (by decide) (by decide)
  · exact key _ 40 rfl (by decide) (by decide)
  · exact key _ 48 rfl (by decide) (by decide)
  · exact key _ 56 rfl (by decide) (by decide)
theorem lor_8 {w b : Int} (i : Nat) (w0 : 0 ≤ w) (w1 : w < 256 ^ i) (b0 : 0 ≤ b) (b1 : b < 128) (i1 : i < 8) : lor w (b * 256 ^ i) = w + b * 256 ^ i := by
  have p256 : (256 : Int) ^ i = ((2 ^ (8 * i) : Nat) : Int) := by
    rcases (show i = 0 ∨ i = 1 ∨ i = 2 ∨ i = 3 ∨ i = 4 ∨ i = 5 ∨ i = 6 ∨ i = 7 by omega) with rfl | rfl | rfl | rfl | rfl | rfl | rfl | rfl <;> decide
  have p : (2 : Nat) ^ (8 * i) ≤ 72057594037927936 := by
    have : (2 : Nat) ^ (8 * i) ≤ 2 ^ 56 := Nat.pow_le_pow_right (by decide) (by omega)
    omega
  obtain ⟨q, hq⟩ : ∃ q, q = (2 : Nat) ^ (8 * i) := ⟨_, rfl⟩
  have w2 : w.toNat < q := by rw [p256, ← hq] at w1; omega
  have bp : b.toNat * q ≤ 127 * 72057594037927936 := Nat.mul_le_mul (by omega) (by omega)
  have be : b * 256 ^ i = ((b.toNat * q : Nat) : Int) := by
    rw [p256, ← hq]
    obtain ⟨a, rfl⟩ := Int.eq_ofNat_of_zero_le b0
    simp
  rw [be]
  unfold lor
  have e : (Int64.ofInt w ||| Int64.ofInt ((b.toNat * q : Nat) : Int)).toUInt64.toNat = b.toNat * q + w.toNat := by
    show ((Int64.ofInt w).toUInt64 ||| (Int64.ofInt ((b.toNat * q : Nat) : Int)).toUInt64).toNat = _
    rw [UInt64.toNat_or, u64_of w0 (by omega), u64_of (by omega) (by omega), Nat.or_comm]
    have := Nat.shiftLeft_add_eq_or_of_lt (b := w.toNat) (i := 8 * i) (by rw [← hq]; exact w2) b.toNat
    rw [Nat.shiftLeft_eq, ← hq] at this
    rw [Int.toNat_natCast]
    exact this.symm
  have e2 := i64_of (u := (Int64.ofInt w ||| Int64.ofInt ((b.toNat * q : Nat) : Int)).toUInt64) (by omega)
  have e3 : (Int64.ofInt w ||| Int64.ofInt ((b.toNat * q : Nat) : Int)).toInt = ((Int64.ofInt w ||| Int64.ofInt ((b.toNat * q : Nat) : Int)).toUInt64.toNat : Int) := e2
  rw [e3, e]
  omega
theorem wd8_snoc : ∀ (l : List Int) (c : Int), wd8 (l ++ [c]) = wd8 l + (c + 96) * 256 ^ l.length
  | [], c => by show (c + 96) + 256 * 0 = 0 + (c + 96) * 256 ^ 0; rw [Int.pow_zero]; omega
  | d :: l, c => by
    show (d + 96) + 256 * wd8 (l ++ [c]) = (d + 96) + 256 * wd8 l + (c + 96) * 256 ^ (l.length + 1)
    rw [wd8_snoc l c, Int.pow_succ, Int.mul_add]
    have : 256 * ((c + 96) * 256 ^ l.length) = (c + 96) * (256 ^ l.length * 256) := by rw [Int.mul_comm 256, Int.mul_assoc]
    omega
theorem ior_5 {w c : Int} (w0 : 0 ≤ w) (w1 : w < 32768) (c0 : 0 ≤ c) (c1 : c < 32) : ior (ishl w 5) c = w * 32 + c := by
  have hs : ishl w 5 = w * 32 := by
    unfold ishl
    have hm : (Int32.ofInt 5 &&& 31).toUInt32.toNat % 32 = 5 := by decide
    have e : (Int32.ofInt w <<< (Int32.ofInt 5 &&& 31)).toUInt32.toNat = w.toNat * 32 := by
      show ((Int32.ofInt w).toUInt32 <<< (Int32.ofInt 5 &&& 31).toUInt32).toNat = _
      rw [UInt32.toNat_shiftLeft, hm, u32_of w0 (by omega), Nat.shiftLeft_eq]
      omega
    have e2 := i32_ofu (u := (Int32.ofInt w <<< (Int32.ofInt 5 &&& 31)).toUInt32) (by omega)
    have e3 : (Int32.ofInt w <<< (Int32.ofInt 5 &&& 31)).toInt = ((Int32.ofInt w <<< (Int32.ofInt 5 &&& 31)).toUInt32.toNat : Int) := e2
    rw [e3, e]
    omega
  rw [hs]
  unfold ior
  have e : (Int32.ofInt (w * 32) ||| Int32.ofInt c).toUInt32.toNat = w.toNat * 32 + c.toNat := by
    show ((Int32.ofInt (w * 32)).toUInt32 ||| (Int32.ofInt c).toUInt32).toNat = _
    rw [UInt32.toNat_or, u32_of (by omega) (by omega), u32_of c0 (by omega), show (w * 32).toNat = w.toNat <<< 5 by rw [Nat.shiftLeft_eq]; omega, ← Nat.shiftLeft_add_eq_or_of_lt (by omega), Nat.shiftLeft_eq]
  have e2 := i32_ofu (u := (Int32.ofInt (w * 32) ||| Int32.ofInt c).toUInt32) (by omega)
  have e3 : (Int32.ofInt (w * 32) ||| Int32.ofInt c).toInt = ((Int32.ofInt (w * 32) ||| Int32.ofInt c).toUInt32.toNat : Int) := e2
  rw [e3, e]
  omega
/-- letters on the tape -/
def lts (τ : St) (k : Int) : Nat → List Int
  | 0 => []
  | m + 1 => lts τ k m ++ [bA τ (k + m) - 96]
theorem lts_len (τ : St) (k : Int) : ∀ m, (lts τ k m).length = m
  | 0 => rfl
  | m + 1 => by show (lts τ k m ++ [bA τ (k + m) - 96]).length = m + 1; rw [List.length_append, lts_len τ k m]; rfl
theorem lts_ok {τ : St} {k : Int} : ∀ {m : Nat}, (∀ i, k ≤ i → i < k + m → isLt (bA τ i)) → okL (lts τ k m)
  | 0, _ => fun c hc => absurd hc (by simp [lts])
  | m + 1, h => fun c hc => by
    rcases List.mem_append.mp hc with hc | hc
    · exact lts_ok (fun i a b => h i a (by omega)) c hc
    · have := h (k + m) (by omega) (by omega)
      rw [List.mem_singleton.mp hc]
      omega
/-- the two words of the reference after m letters -/
def lpA (τ : St) (k : Int) (m : Nat) : Int := pkr ((lts τ k m).take 4).reverse
def lpB (τ : St) (k : Int) (m : Nat) : Int := pkr ((lts τ k m).drop 4).reverse
theorem lp_step {τ : St} {k : Int} {m : Nat} (h : ∀ i, k ≤ i → i < k + (m + 1 : Nat) → isLt (bA τ i)) (h8 : m < 8) : (m < 4 → lpA τ k (m + 1) = lpA τ k m * 32 + (bA τ (k + m) - 96) ∧ lpB τ k (m + 1) = lpB τ k m) ∧ (4 ≤ m → lpA τ k (m + 1) = lpA τ k m ∧ lpB τ k (m + 1) = lpB τ k m * 32 + (bA τ (k + m) - 96)) ∧ (0 ≤ lpA τ k m ∧ (m < 4 → lpA τ k m < 32768)) ∧ (0 ≤ lpB τ k m ∧ lpB τ k m < 32768) := by
  have ok : okL (lts τ k m) := lts_ok (fun i a b => h i a (by omega))
  have len := lts_len τ k m
  have e : lts τ k (m + 1) = lts τ k m ++ [bA τ (k + m) - 96] := rfl
  unfold lpA lpB
  rw [e]
  refine ⟨fun hm => ?_, fun hm => ?_, ⟨pkr_0 (ok.take 4).rev, fun hm => ?_⟩, pkr_0 (ok.drop 4).rev, ?_⟩
  · have t1 : (lts τ k m ++ [bA τ (k + m) - 96]).take 4 = lts τ k m ++ [bA τ (k + m) - 96] := List.take_of_length_le (by rw [List.length_append, len]; simp; omega)
    have t2 : (lts τ k m).take 4 = lts τ k m := List.take_of_length_le (by omega)
    have t3 : (lts τ k m ++ [bA τ (k + m) - 96]).drop 4 = [] := List.drop_eq_nil_of_le (by rw [List.length_append, len]; simp; omega)
    have t4 : (lts τ k m).drop 4 = [] := List.drop_eq_nil_of_le (by omega)
    rw [t1, t2, t3, t4, List.reverse_append]
    exact ⟨rfl, rfl⟩
  · have t1 : (lts τ k m ++ [bA τ (k + m) - 96]).take 4 = (lts τ k m).take 4 := List.take_append_of_le_length (by omega)
    have t3 : (lts τ k m ++ [bA τ (k + m) - 96]).drop 4 = (lts τ k m).drop 4 ++ [bA τ (k + m) - 96] := List.drop_append_of_le_length (by omega)
    rw [t1, t3, List.reverse_append]
    exact ⟨rfl, rfl⟩
  · have := pkr_lt 3 (l := ((lts τ k m).take 4).reverse) (ok.take 4).rev (by rw [List.length_reverse, List.length_take]; omega)
    have p : (32 : Int) ^ 3 = 32768 := by decide
    omega
  · have := pkr_lt 3 (l := ((lts τ k m).drop 4).reverse) (ok.drop 4).rev (by rw [List.length_reverse, List.length_drop]; omega)
    have p : (32 : Int) ^ 3 = 32768 := by decide
    omega
