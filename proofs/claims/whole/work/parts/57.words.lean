/-! words: eight bytes of the class, four and four letters of five bits of the reference -/
theorem u64_of {w : Int} (w0 : 0 ≤ w) (w1 : w < 9223372036854775808) : (Int64.ofInt w).toUInt64.toNat = w.toNat := by
  show (Int64.ofInt w).toBitVec.toNat = w.toNat
  have h : (Int64.ofInt w).toBitVec = BitVec.ofInt 64 w := rfl
  rw [h, BitVec.toNat_ofInt]
  omega
theorem i64_of {u : UInt64} (h : u.toNat < 9223372036854775808) : u.toInt64.toInt = (u.toNat : Int) := by
  show u.toBitVec.toInt = _
  rw [BitVec.toInt_eq_toNat_of_lt (by show 2 * u.toNat < 2 ^ 64; omega)]
  rfl
theorem lushr_8 {w : Int} (i : Int) (w0 : 0 ≤ w) (w1 : w < 9223372036854775808) (i0 : 0 ≤ i) (i1 : i < 8) : lushr w (8 * i) = w / (256 ^ i.toNat) := by
  have key : ∀ (m : UInt64) (k : Nat), m.toNat % 64 = k → ((Int64.ofInt w).toUInt64 >>> m).toInt64.toInt = w / (2 ^ k : Nat) := fun m k hm => by
    have e : ((Int64.ofInt w).toUInt64 >>> m).toNat = w.toNat / 2 ^ k := by
      rw [UInt64.toNat_shiftRight, hm, u64_of w0 w1, Nat.shiftRight_eq_div_pow]
    rw [i64_of (by rw [e]; exact Nat.lt_of_le_of_lt (Nat.div_le_self _ _) (by omega)), e]
    obtain ⟨a, rfl⟩ := Int.eq_ofNat_of_zero_le w0
    rfl
  unfold lushr
  rcases (show i = 0 ∨ i = 1 ∨ i = 2 ∨ i = 3 ∨ i = 4 ∨ i = 5 ∨ i = 6 ∨ i = 7 by omega) with rfl | rfl | rfl | rfl | rfl | rfl | rfl | rfl
  · exact key _ 0 (by decide)
  · exact key _ 8 (by decide)
  · exact key _ 16 (by decide)
  · exact key _ 24 (by decide)
  · exact key _ 32 (by decide)
  · exact key _ 40 (by decide)
  · exact key _ 48 (by decide)
  · exact key _ 56 (by decide)
theorem land_255 {w : Int} (w0 : 0 ≤ w) (w1 : w < 9223372036854775808) : land w 255 = w % 256 := by
  unfold land
  have e : (Int64.ofInt w &&& Int64.ofInt 255).toUInt64.toNat = w.toNat % 256 := by
    show ((Int64.ofInt w).toUInt64 &&& (Int64.ofInt 255).toUInt64).toNat = _
    rw [UInt64.toNat_and, u64_of w0 w1, u64_of (by omega) (by omega)]
    exact Nat.and_two_pow_sub_one_eq_mod w.toNat 8
  have e2 := i64_of (u := (Int64.ofInt w &&& Int64.ofInt 255).toUInt64) (by omega)
  have e3 : (Int64.ofInt w &&& Int64.ofInt 255).toInt = ((Int64.ofInt w &&& Int64.ofInt 255).toUInt64.toNat : Int) := e2
  rw [e3, e]
  omega
theorem u32_of {w : Int} (w0 : 0 ≤ w) (w1 : w < 2147483648) : (Int32.ofInt w).toUInt32.toNat = w.toNat := by
  show (Int32.ofInt w).toBitVec.toNat = w.toNat
  have h : (Int32.ofInt w).toBitVec = BitVec.ofInt 32 w := rfl
  rw [h, BitVec.toNat_ofInt]
  omega
theorem i32_ofu {u : UInt32} (h : u.toNat < 2147483648) : u.toInt32.toInt = (u.toNat : Int) := by
  show u.toBitVec.toInt = _
  rw [BitVec.toInt_eq_toNat_of_lt (by show 2 * u.toNat < 2 ^ 32; omega)]
  rfl
theorem iushr_5 {w : Int} (w0 : 0 ≤ w) (w1 : w < 2147483648) : iushr w 5 = w / 32 := by
  unfold iushr
  have hm : ((Int32.ofInt 5).toUInt32 &&& Int32.toUInt32 31).toNat % 32 = 5 := by decide
  have e : ((Int32.ofInt w).toUInt32 >>> ((Int32.ofInt 5).toUInt32 &&& Int32.toUInt32 31)).toNat = w.toNat / 32 := by
    rw [UInt32.toNat_shiftRight, hm, u32_of w0 w1, Nat.shiftRight_eq_div_pow]
  rw [i32_ofu (by rw [e]; exact Nat.lt_of_le_of_lt (Nat.div_le_self _ _) (by omega)), e]
  omega
theorem iand_31 {w : Int} (w0 : 0 ≤ w) (w1 : w < 2147483648) : iand w 31 = w % 32 := by
  unfold iand
  have e : (Int32.ofInt w &&& Int32.ofInt 31).toUInt32.toNat = w.toNat % 32 := by
    show ((Int32.ofInt w).toUInt32 &&& (Int32.ofInt 31).toUInt32).toNat = _
    rw [UInt32.toNat_and, u32_of w0 w1, u32_of (by omega) (by omega)]
    exact Nat.and_two_pow_sub_one_eq_mod w.toNat 5
  have e2 := i32_ofu (u := (Int32.ofInt w &&& Int32.ofInt 31).toUInt32) (by omega)
  have e3 : (Int32.ofInt w &&& Int32.ofInt 31).toInt = ((Int32.ofInt w &&& Int32.ofInt 31).toUInt32.toNat : Int) := e2
  rw [e3, e]
  omega
def wd8 : List Int → Int
  | [] => 0
  | c :: t => (c + 96) + 256 * wd8 t
def pkr : List Int → Int
  | [] => 0
  | c :: t => pkr t * 32 + c
def okL (l : List Int) : Prop := ∀ c ∈ l, 1 ≤ c ∧ c ≤ 26
theorem okL.tl {c : Int} {t : List Int} (h : okL (c :: t)) : okL t := fun d hd => h d (List.mem_cons_of_mem _ hd)
theorem okL.hd {c : Int} {t : List Int} (h : okL (c :: t)) : 1 ≤ c ∧ c ≤ 26 := h c List.mem_cons_self
theorem wd8_0 : ∀ {l : List Int}, okL l → 0 ≤ wd8 l
  | [], _ => by show (0 : Int) ≤ 0; omega
  | c :: t, h => by
    have h1 := wd8_0 h.tl
    have h2 := h.hd
    show 0 ≤ (c + 96) + 256 * wd8 t
    omega
theorem wd8_lt : ∀ (n : Nat) {l : List Int}, okL l → l.length ≤ n → wd8 l < 123 * 256 ^ n
  | n, [], _, _ => by
    show (0 : Int) < _
    have : (0 : Int) < 256 ^ n := Int.pow_pos (by omega)
    omega
  | 0, c :: t, _, hn => absurd hn (by simp)
  | n + 1, c :: t, h, hn => by
    have h1 := wd8_lt n h.tl (by simp at hn; omega)
    have h2 := h.hd
    have hp : (256 : Int) ^ (n + 1) = 256 ^ n * 256 := Int.pow_succ 256 n
    have hq : (0 : Int) < 256 ^ n := Int.pow_pos (by omega)
    show (c + 96) + 256 * wd8 t < _
    omega
theorem pkr_0 : ∀ {l : List Int}, okL l → 0 ≤ pkr l
  | [], _ => by show (0 : Int) ≤ 0; omega
  | c :: t, h => by
    have h1 := pkr_0 h.tl
    have h2 := h.hd
    show 0 ≤ pkr t * 32 + c
    omega
theorem pkr_lt : ∀ (n : Nat) {l : List Int}, okL l → l.length ≤ n → pkr l < 32 ^ n
  | n, [], _, _ => by
    show (0 : Int) < _
    exact Int.pow_pos (by omega)
  | 0, c :: t, _, hn => absurd hn (by simp)
  | n + 1, c :: t, h, hn => by
    have h1 := pkr_lt n h.tl (by simp at hn; omega)
    have h2 := h.hd
    have hp : (32 : Int) ^ (n + 1) = 32 ^ n * 32 := Int.pow_succ 32 n
    show pkr t * 32 + c < _
    omega
def RWd (w a b : Int) : Prop := ∃ l, okL l ∧ l.length ≤ 8 ∧ w = wd8 l ∧ a = pkr (l.take 4).reverse ∧ b = pkr (l.drop 4).reverse
theorem wd8_drop : ∀ (i : Nat) {l : List Int}, okL l → wd8 l / 256 ^ i = wd8 (l.drop i)
  | 0, l, h => by
    show wd8 l / 1 = _
    rw [Int.ediv_one]
    rfl
  | i + 1, [], _ => by
    show (0 : Int) / _ = 0
    rw [Int.zero_ediv]
  | i + 1, c :: t, h => by
    have hp : (256 : Int) ^ (i + 1) = 256 * 256 ^ i := by rw [Int.pow_succ, Int.mul_comm]
    have h2 := h.hd
    show ((c + 96) + 256 * wd8 t) / 256 ^ (i + 1) = wd8 (t.drop i)
    rw [hp, ← Int.ediv_ediv_of_nonneg (by omega), show ((c + 96) + 256 * wd8 t) / 256 = wd8 t by omega]
    exact wd8_drop i h.tl
theorem okL.drop {l : List Int} (h : okL l) (i : Nat) : okL (l.drop i) := fun c hc => h c (List.mem_of_mem_drop hc)
theorem okL.take {l : List Int} (h : okL l) (i : Nat) : okL (l.take i) := fun c hc => h c (List.mem_of_mem_take hc)
theorem okL.rev {l : List Int} (h : okL l) : okL l.reverse := fun c hc => h c (List.mem_reverse.mp hc)
/-- letter i of the class's word, 0 behind its end -/
theorem wd8_at {l : List Int} (h : okL l) (h8 : l.length ≤ 8) {i : Int} (i0 : 0 ≤ i) (i1 : i < 8) : land (lushr (wd8 l) (8 * i)) 255 = if i < l.length then l.getD i.toNat 0 + 96 else 0 := by
  have b0 := wd8_0 h
  have b1 : wd8 l < 123 * 256 ^ 8 := wd8_lt 8 h h8
  have b2 : (123 * 256 ^ 8 : Int) = 2268949521066274848768 := by decide
  have b3 : wd8 l < 9223372036854775808 := by
    by_cases q : l.length ≤ 7
    · have := wd8_lt 7 h q
      have e : (123 * 256 ^ 7 : Int) = 8863084066665136128 := by decide
      omega
    · match l, h, h8, q with
      | [c1, c2, c3, c4, c5, c6, c7, c8], h, _, _ =>
        have k1 := h c1 (by simp)
        have k2 := h c2 (by simp)
        have k3 := h c3 (by simp)
        have k4 := h c4 (by simp)
        have k5 := h c5 (by simp)
        have k6 := h c6 (by simp)
        have k7 := h c7 (by simp)
        have k8 := h c8 (by simp)
        simp only [wd8]
        omega
      | [], _, _, q => simp at q
      | [_], _, _, q => simp at q
      | [_, _], _, _, q => simp at q
      | [_, _, _], _, _, q => simp at q
      | [_, _, _, _], _, _, q => simp at q
      | [_, _, _, _, _], _, _, q => simp at q
      | [_, _, _, _, _, _], _, _, q => simp at q
      | [_, _, _, _, _, _, _], _, _, q => simp at q
      | _ :: _ :: _ :: _ :: _ :: _ :: _ :: _ :: _ :: _, _, h8, _ => simp at h8
  rw [lushr_8 i b0 b3 i0 i1, wd8_drop i.toNat h]
  have d0 := wd8_0 (h.drop i.toNat)
  have d1 : wd8 (l.drop i.toNat) < 9223372036854775808 := by
    rw [← wd8_drop i.toNat h]
    exact Int.lt_of_le_of_lt (Int.ediv_le_self _ b0) b3
  rw [land_255 d0 d1]
  by_cases c : i < l.length
  · rw [if_pos c]
    have hl : i.toNat < l.length := by omega
    rw [List.drop_eq_getElem_cons hl]
    have k := h l[i.toNat] (List.getElem_mem hl)
    have g : l.getD i.toNat 0 = l[i.toNat] := by simp [hl]
    rw [g]
    show ((l[i.toNat] + 96) + 256 * wd8 (l.drop (i.toNat + 1))) % 256 = _
    omega
  · rw [if_neg c, List.drop_of_length_le (by omega)]
    rfl
