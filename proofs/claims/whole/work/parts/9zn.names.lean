/-! names: the class counts in 37s, the reference shifts by six -/
theorem lshl_6 {w : Int} (w0 : 0 ≤ w) (w1 : w < 100000000000000000) : lshl w 6 = w * 64 := by
  unfold lshl
  have hm : ((Int32.ofInt 6).toInt64 &&& 63).toUInt64.toNat % 64 = 6 := by decide
  have e : (Int64.ofInt w <<< ((Int32.ofInt 6).toInt64 &&& 63)).toUInt64.toNat = w.toNat * 64 := by
    show ((Int64.ofInt w).toUInt64 <<< ((Int32.ofInt 6).toInt64 &&& 63).toUInt64).toNat = _
    rw [UInt64.toNat_shiftLeft, hm, u64_of w0 (by omega), Nat.shiftLeft_eq]
    omega
  have e2 := i64_of (u := (Int64.ofInt w <<< ((Int32.ofInt 6).toInt64 &&& 63)).toUInt64) (by omega)
  have e3 : (Int64.ofInt w <<< ((Int32.ofInt 6).toInt64 &&& 63)).toInt = ((Int64.ofInt w <<< ((Int32.ofInt 6).toInt64 &&& 63)).toUInt64.toNat : Int) := e2
  rw [e3, e]
  omega
theorem lor_6 {w c : Int} (w0 : 0 ≤ w) (w1 : w < 100000000000000000) (c0 : 0 ≤ c) (c1 : c < 64) : lor (w * 64) c = w * 64 + c := by
  unfold lor
  have e : (Int64.ofInt (w * 64) ||| Int64.ofInt c).toUInt64.toNat = w.toNat * 64 + c.toNat := by
    show ((Int64.ofInt (w * 64)).toUInt64 ||| (Int64.ofInt c).toUInt64).toNat = _
    rw [UInt64.toNat_or, u64_of (by omega) (by omega), u64_of c0 (by omega), show (w * 64).toNat = w.toNat <<< 6 by rw [Nat.shiftLeft_eq]; omega, ← Nat.shiftLeft_add_eq_or_of_lt (by omega), Nat.shiftLeft_eq]
  have e2 := i64_of (u := (Int64.ofInt (w * 64) ||| Int64.ofInt c).toUInt64) (by omega)
  have e3 : (Int64.ofInt (w * 64) ||| Int64.ofInt c).toInt = ((Int64.ofInt (w * 64) ||| Int64.ofInt c).toUInt64.toNat : Int) := e2
  rw [e3, e]
  omega
theorem land_40 {w : Int} (w0 : 0 ≤ w) (w1 : w < 1099511627776) : land w 1099511627775 = w := by
  unfold land
  have e : (Int64.ofInt w &&& Int64.ofInt 1099511627775).toUInt64.toNat = w.toNat := by
    show ((Int64.ofInt w).toUInt64 &&& (Int64.ofInt 1099511627775).toUInt64).toNat = _
    rw [UInt64.toNat_and, u64_of w0 (by omega), u64_of (by omega) (by omega)]
    rw [show (1099511627775 : Int).toNat = 2 ^ 40 - 1 by decide, Nat.and_two_pow_sub_one_eq_mod w.toNat 40]
    omega
  have e2 := i64_of (u := (Int64.ofInt w &&& Int64.ofInt 1099511627775).toUInt64) (by omega)
  have e3 : (Int64.ofInt w &&& Int64.ofInt 1099511627775).toInt = ((Int64.ofInt w &&& Int64.ofInt 1099511627775).toUInt64.toNat : Int) := e2
  rw [e3, e]
  omega
theorem ppos {b : Int} (h : 0 < b) : ∀ n : Nat, 0 < b ^ n
  | 0 => by rw [Int.pow_zero]; decide
  | n + 1 => by rw [Int.pow_succ]; exact Int.mul_pos (ppos h n) h
/-- a byte's code in a name -/
def ncd (b : Int) : Int := if isDg b then b - 48 + 27 else b - 97 + 1
/-- codes, the last one first -/
def n37 : List Int → Int
  | [] => 0
  | c :: cs => n37 cs * 37 + c
def n64 : List Int → Int × Int
  | [] => (0, 0)
  | c :: cs => if cs.length < 6 then (lor (lshl (n64 cs).1 6) c, (n64 cs).2) else ((n64 cs).1, lor (lshl (land (n64 cs).2 1099511627775) 6) c)
def okN (cs : List Int) : Prop := ∀ c ∈ cs, 1 ≤ c ∧ c ≤ 36
theorem okN.tl {c : Int} {cs : List Int} (h : okN (c :: cs)) : okN cs := fun d hd => h d (List.mem_cons_of_mem _ hd)
theorem okN.hd {c : Int} {cs : List Int} (h : okN (c :: cs)) : 1 ≤ c ∧ c ≤ 36 := h c List.mem_cons_self
theorem n37_0 : ∀ {cs : List Int}, okN cs → 0 ≤ n37 cs
  | [], _ => Int.le_refl _
  | c :: cs, h => by have := n37_0 h.tl; have := h.hd; show 0 ≤ n37 cs * 37 + c; omega
theorem n37_lt : ∀ (n : Nat) {cs : List Int}, okN cs → cs.length ≤ n → n37 cs < 37 ^ n
  | 0, [], _, _ => by decide
  | 0, _ :: _, _, h => by simp at h
  | n + 1, [], _, _ => ppos (by decide) (n + 1)
  | n + 1, c :: cs, h, hl => by
    have h1 := n37_lt n h.tl (by simp only [List.length_cons] at hl; omega)
    have h2 := h.hd
    show n37 cs * 37 + c < 37 ^ (n + 1)
    rw [Int.pow_succ]
    omega
theorem n37_inj : ∀ {cs ds : List Int}, okN cs → okN ds → n37 cs = n37 ds → cs = ds
  | [], [], _, _, _ => rfl
  | [], d :: ds, _, k, e => by have := n37_0 k.tl; have := k.hd; change (0 : Int) = n37 ds * 37 + d at e; omega
  | c :: cs, [], h, _, e => by have := n37_0 h.tl; have := h.hd; change n37 cs * 37 + c = (0 : Int) at e; omega
  | c :: cs, d :: ds, h, k, e => by
    have h1 := n37_0 h.tl
    have k1 := n37_0 k.tl
    have h2 := h.hd
    have k2 := k.hd
    change n37 cs * 37 + c = n37 ds * 37 + d at e
    have e1 : c = d := by omega
    have e2 : n37 cs = n37 ds := by omega
    rw [e1, n37_inj h.tl k.tl e2]
/-- what the two words are -/
theorem n64_b : ∀ {cs : List Int}, okN cs → cs.length ≤ 12 → (0 ≤ (n64 cs).1 ∧ (n64 cs).1 < 64 ^ (min cs.length 6)) ∧ (0 ≤ (n64 cs).2 ∧ (n64 cs).2 < 64 ^ (cs.length - 6)) ∧ (cs.length ≤ 6 → (n64 cs).2 = 0)
  | [], _, _ => ⟨⟨by decide, by decide⟩, ⟨by decide, by decide⟩, fun _ => rfl⟩
  | c :: cs, h, hl => by
    simp only [List.length_cons] at hl
    obtain ⟨⟨a1, a2⟩, ⟨b1, b2⟩, b3⟩ := n64_b h.tl (by omega)
    have h2 := h.hd
    have pw : ∀ n : Nat, n ≤ 6 → (64 : Int) ^ n ≤ 68719476736 := fun n hn => by
      rcases (show n = 0 ∨ n = 1 ∨ n = 2 ∨ n = 3 ∨ n = 4 ∨ n = 5 ∨ n = 6 by omega) with rfl | rfl | rfl | rfl | rfl | rfl | rfl <;> decide
    have p1 := pw (min cs.length 6) (by omega)
    have p2 := pw (cs.length - 6) (by omega)
    by_cases c6 : cs.length < 6
    · have e : n64 (c :: cs) = (lor (lshl (n64 cs).1 6) c, (n64 cs).2) := by show (if cs.length < 6 then _ else _) = _; rw [if_pos c6]
      rw [e, lshl_6 a1 (by omega), lor_6 a1 (by omega) (by omega) (by omega)]
      simp only [List.length_cons]
      have m1 : min cs.length 6 = cs.length := by omega
      have m2 : min (cs.length + 1) 6 = cs.length + 1 := by omega
      rw [m1] at a2
      rw [m2, Int.pow_succ, b3 (by omega)]
      refine ⟨⟨by omega, by omega⟩, ⟨by omega, ppos (by decide) _⟩, fun _ => rfl⟩
    · have e : n64 (c :: cs) = ((n64 cs).1, lor (lshl (land (n64 cs).2 1099511627775) 6) c) := by show (if cs.length < 6 then _ else _) = _; rw [if_neg c6]
      rw [e, land_40 b1 (by omega), lshl_6 b1 (by omega), lor_6 b1 (by omega) (by omega) (by omega)]
      simp only [List.length_cons]
      have m1 : min (cs.length + 1) 6 = min cs.length 6 := by omega
      have m2 : cs.length + 1 - 6 = (cs.length - 6) + 1 := by omega
      rw [m1, m2, Int.pow_succ]
      exact ⟨⟨a1, a2⟩, ⟨by omega, by omega⟩, fun h => by omega⟩
theorem n64_c {c : Int} {cs : List Int} (h : okN (c :: cs)) (hl : cs.length ≤ 11) : n64 (c :: cs) = if cs.length < 6 then ((n64 cs).1 * 64 + c, (n64 cs).2) else ((n64 cs).1, (n64 cs).2 * 64 + c) := by
  obtain ⟨⟨a1, a2⟩, ⟨b1, b2⟩, b3⟩ := n64_b h.tl (by omega)
  have h2 := h.hd
  have pw : ∀ n : Nat, n ≤ 6 → (64 : Int) ^ n ≤ 68719476736 := fun n hn => by
    rcases (show n = 0 ∨ n = 1 ∨ n = 2 ∨ n = 3 ∨ n = 4 ∨ n = 5 ∨ n = 6 by omega) with rfl | rfl | rfl | rfl | rfl | rfl | rfl <;> decide
  have p1 := pw (min cs.length 6) (by omega)
  have p2 := pw (cs.length - 6) (by omega)
  show (if cs.length < 6 then (lor (lshl (n64 cs).1 6) c, (n64 cs).2) else ((n64 cs).1, lor (lshl (land (n64 cs).2 1099511627775) 6) c)) = _
  rw [land_40 b1 (by omega), lshl_6 b1 (by omega), lor_6 b1 (by omega) (by omega) (by omega), lshl_6 a1 (by omega), lor_6 a1 (by omega) (by omega) (by omega)]
theorem n64_inj : ∀ {cs ds : List Int}, okN cs → okN ds → cs.length ≤ 12 → ds.length ≤ 12 → n64 cs = n64 ds → cs = ds
  | [], [], _, _, _, _, _ => rfl
  | [], d :: ds, _, k, _, l2, e => by
    simp only [List.length_cons] at l2
    have kb := n64_b k.tl (by omega)
    have k2 := k.hd
    rw [n64_c k (by omega)] at e
    change ((0 : Int), (0 : Int)) = _ at e
    split at e <;> simp only [Prod.mk.injEq] at e <;> omega
  | c :: cs, [], h, _, l1, _, e => by
    simp only [List.length_cons] at l1
    have hb := n64_b h.tl (by omega)
    have h2 := h.hd
    rw [n64_c h (by omega)] at e
    change _ = ((0 : Int), (0 : Int)) at e
    split at e <;> simp only [Prod.mk.injEq] at e <;> omega
  | c :: cs, d :: ds, h, k, l1, l2, e => by
    simp only [List.length_cons] at l1 l2
    have hb := n64_b h.tl (by omega)
    have h2 := h.hd
    have kb := n64_b k.tl (by omega)
    have k2 := k.hd
    rw [n64_c h (by omega), n64_c k (by omega)] at e
    have key : c = d ∧ n64 cs = n64 ds := by
      by_cases c1 : cs.length < 6
      · rw [if_pos c1] at e
        have z := hb.2.2 (by omega)
        by_cases c2 : ds.length < 6
        · rw [if_pos c2] at e
          simp only [Prod.mk.injEq] at e
          exact ⟨by omega, Prod.ext (by omega) (by omega)⟩
        · rw [if_neg c2] at e
          simp only [Prod.mk.injEq] at e
          omega
      · rw [if_neg c1] at e
        by_cases c2 : ds.length < 6
        · rw [if_pos c2] at e
          simp only [Prod.mk.injEq] at e
          have z := kb.2.2 (by omega)
          omega
        · rw [if_neg c2] at e
          simp only [Prod.mk.injEq] at e
          exact ⟨by omega, Prod.ext (by omega) (by omega)⟩
    rw [key.1, n64_inj h.tl k.tl (by omega) (by omega) key.2]
/-- a name of the class and of the reference -/
def RNm (n a b : Int) : Prop := ∃ cs : List Int, okN cs ∧ 1 ≤ cs.length ∧ cs.length ≤ 12 ∧ n = n37 cs ∧ a = (n64 cs).1 ∧ b = (n64 cs).2
theorem RNm.eq {n a b n' a' b' : Int} (h : RNm n a b) (k : RNm n' a' b') : n = n' ↔ a = a' ∧ b = b' := by
  obtain ⟨cs, h1, h2, h3, rfl, rfl, rfl⟩ := h
  obtain ⟨ds, k1, k2, k3, rfl, rfl, rfl⟩ := k
  constructor
  · intro e; rw [n37_inj h1 k1 e]; exact ⟨rfl, rfl⟩
  · intro e; rw [n64_inj h1 k1 h3 k3 (Prod.ext e.1 e.2)]
theorem RNm.i {n a b : Int} (h : RNm n a b) : (0 < n ∧ i64 n) ∧ i64 a ∧ i64 b := by
  obtain ⟨cs, h1, h2, h3, rfl, rfl, rfl⟩ := h
  have b1 := n37_lt 12 h1 h3
  have b0 := n37_0 h1
  obtain ⟨⟨a1, a2⟩, ⟨b1', b2⟩, -⟩ := n64_b h1 h3
  have pw : ∀ n : Nat, n ≤ 6 → (64 : Int) ^ n ≤ 68719476736 := fun n hn => by
    rcases (show n = 0 ∨ n = 1 ∨ n = 2 ∨ n = 3 ∨ n = 4 ∨ n = 5 ∨ n = 6 by omega) with rfl | rfl | rfl | rfl | rfl | rfl | rfl <;> decide
  have p1 := pw (min cs.length 6) (by omega)
  have p2 := pw (cs.length - 6) (by omega)
  have b2' : n37 cs < 6582952005840035281 := by have : (37 : Int) ^ 12 = 6582952005840035281 := by decide
                                                omega
  have pos : 0 < n37 cs := by
    cases cs with
    | nil => simp at h2
    | cons c cs => have := h1.hd; have := n37_0 h1.tl; show 0 < n37 cs * 37 + c; omega
  exact ⟨⟨pos, by omega, by omega⟩, ⟨by omega, by omega⟩, by omega, by omega⟩
