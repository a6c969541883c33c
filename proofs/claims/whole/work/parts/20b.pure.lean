/-! numbers: a machine int is Int32.ofInt of an Int, a long Int64.ofInt -/
abbrev i32 (x : Int) : Prop := -2147483648 ≤ x ∧ x < 2147483648
abbrev i64 (x : Int) : Prop := -9223372036854775808 ≤ x ∧ x < 9223372036854775808
abbrev inb (i : Int) (n : Nat) : Prop := 0 ≤ i ∧ i < n
abbrev isZ (v : Int) : Prop := v = 0 ∨ v = 1
def iand (x y : Int) : Int := (Int32.ofInt x &&& Int32.ofInt y).toInt
def ior (x y : Int) : Int := (Int32.ofInt x ||| Int32.ofInt y).toInt
def ixor (x y : Int) : Int := (Int32.ofInt x ^^^ Int32.ofInt y).toInt
def ishl (x y : Int) : Int := (Int32.ofInt x <<< (Int32.ofInt y &&& 31)).toInt
def ishr (x y : Int) : Int := (Int32.ofInt x >>> (Int32.ofInt y &&& 31)).toInt
def iushr (x y : Int) : Int := ((Int32.ofInt x).toUInt32 >>> ((Int32.ofInt y).toUInt32 &&& Int32.toUInt32 31)).toInt32.toInt
def land (x y : Int) : Int := (Int64.ofInt x &&& Int64.ofInt y).toInt
def lor (x y : Int) : Int := (Int64.ofInt x ||| Int64.ofInt y).toInt
def lxor (x y : Int) : Int := (Int64.ofInt x ^^^ Int64.ofInt y).toInt
def lshl (x y : Int) : Int := (Int64.ofInt x <<< ((Int32.ofInt y).toInt64 &&& 63)).toInt
def lushr (x y : Int) : Int := ((Int64.ofInt x).toUInt64 >>> ((Int32.ofInt y).toInt64.toUInt64 &&& Int64.toUInt64 63)).toInt64.toInt
def b8 (x : Int) : Int := (Int32.ofInt x).toInt8.toInt32.toInt
theorem c32_ti {x : Int} (h : i32 x) : (Int32.ofInt x).toInt = x := Int32.toInt_ofInt_of_le h.1 h.2
/-- an int that may have run over, as the machine keeps it -/
def w32 (x : Int) : Int := (Int32.ofInt x).toInt
theorem c32_w (x : Int) : Int32.ofInt (w32 x) = Int32.ofInt x := Int32.ofInt_toInt _
theorem w32_i (x : Int) : i32 (w32 x) := ⟨Int32.le_toInt _, Int32.toInt_lt _⟩
theorem w32_id {x : Int} (h : i32 x) : w32 x = x := c32_ti h
theorem c64_ti {x : Int} (h : i64 x) : (Int64.ofInt x).toInt = x := Int64.toInt_ofInt_of_le h.1 h.2
theorem c32_add (x y : Int) : Int32.ofInt x + Int32.ofInt y = Int32.ofInt (x + y) := (Int32.ofInt_add x y).symm
theorem c32_lt {x y : Int} (hx : i32 x) (hy : i32 y) : Int32.ofInt x < Int32.ofInt y ↔ x < y := by rw [Int32.lt_iff_toInt_lt, c32_ti hx, c32_ti hy]
theorem c32_le {x y : Int} (hx : i32 x) (hy : i32 y) : Int32.ofInt x ≤ Int32.ofInt y ↔ x ≤ y := by rw [Int32.le_iff_toInt_le, c32_ti hx, c32_ti hy]
theorem c32_eq {x y : Int} (hx : i32 x) (hy : i32 y) : Int32.ofInt x = Int32.ofInt y ↔ x = y := by rw [← Int32.toInt_inj, c32_ti hx, c32_ti hy]
theorem c64_lt {x y : Int} (hx : i64 x) (hy : i64 y) : Int64.ofInt x < Int64.ofInt y ↔ x < y := by rw [Int64.lt_iff_toInt_lt, c64_ti hx, c64_ti hy]
theorem c64_le {x y : Int} (hx : i64 x) (hy : i64 y) : Int64.ofInt x ≤ Int64.ofInt y ↔ x ≤ y := by rw [Int64.le_iff_toInt_le, c64_ti hx, c64_ti hy]
theorem c64_eq {x y : Int} (hx : i64 x) (hy : i64 y) : Int64.ofInt x = Int64.ofInt y ↔ x = y := by rw [← Int64.toInt_inj, c64_ti hx, c64_ti hy]
theorem c32_z : (0 : Int32) = Int32.ofInt 0 := by decide
theorem c64_z : (0 : Int64) = Int64.ofInt 0 := by decide
theorem z_i32 : i32 0 := by decide
theorem z_i64 : i64 0 := by decide
theorem inb_i32 {x : Int} {n : Nat} (hn : n ≤ 2147483648) (h : inb x n) : i32 x := by have h1 := h.1; have h2 := h.2; constructor <;> omega
theorem inb_i64 {x : Int} {n : Nat} (hn : n ≤ 2147483648) (h : inb x n) : i64 x := by have h1 := h.1; have h2 := h.2; constructor <;> omega
theorem c32_cl {x : Int} (h0 : 0 ≤ x) (h1 : x < 2147483648) : (Int32.ofInt x).toNatClampNeg = x.toNat := by
  rw [← Int32.toNat_toInt, c32_ti ⟨by omega, h1⟩]
theorem c32_in {x : Int} {n : Nat} (hn : n ≤ 2147483648) (h : inb x n) : vp_in (Int32.ofInt x) n := vp_in_iff.mpr (by rw [c32_ti (inb_i32 hn h)]; exact h)
theorem c32_div {x y : Int} (hx : i32 x) (hy : i32 y) : Int32.ofInt x / Int32.ofInt y = Int32.ofInt (Int.tdiv x y) := by
  rw [← Int32.toInt_inj, Int32.toInt_div, c32_ti hx, c32_ti hy, Int32.toInt_ofInt]
theorem c64_div {x y : Int} (hx : i64 x) (hy : i64 y) : Int64.ofInt x / Int64.ofInt y = Int64.ofInt (Int.tdiv x y) := by
  rw [← Int64.toInt_inj, Int64.toInt_div, c64_ti hx, c64_ti hy, Int64.toInt_ofInt]
theorem tm_eq (x y : Int) : x - Int.tdiv x y * y = Int.tmod x y := by rw [Int.tmod_def, Int.mul_comm]
theorem c32_rem {x y : Int} (hx : i32 x) (hy : i32 y) : Int32.ofInt x - Int32.ofInt x / Int32.ofInt y * Int32.ofInt y = Int32.ofInt (Int.tmod x y) := by
  rw [c32_div hx hy, ← Int32.ofInt_mul, ← Int32.ofInt_sub, tm_eq]
theorem c64_rem {x y : Int} (hx : i64 x) (hy : i64 y) : Int64.ofInt x - Int64.ofInt x / Int64.ofInt y * Int64.ofInt y = Int64.ofInt (Int.tmod x y) := by
  rw [c64_div hx hy, ← Int64.ofInt_mul, ← Int64.ofInt_sub, tm_eq]
theorem c32_64 {x : Int} (h : i32 x) : (Int32.ofInt x).toInt64 = Int64.ofInt x := by
  rw [← Int64.toInt_inj, Int32.toInt_toInt64, c32_ti h, c64_ti ⟨by omega, by omega⟩]
theorem c64_32 (x : Int) : (Int64.ofInt x).toInt32 = Int32.ofInt x := Int64.toInt32_ofInt
theorem c32_b8 (x : Int) : (Int32.ofInt x).toInt8.toInt32 = Int32.ofInt (b8 x) := by rw [b8, Int32.ofInt_toInt]
theorem c32_ne0 {y : Int} (hy : i32 y) (h : ¬ y = 0) : ¬ Int32.ofInt y = 0 := by rw [c32_z, c32_eq hy z_i32]; exact h
theorem c64_ne0 {y : Int} (hy : i64 y) (h : ¬ y = 0) : ¬ Int64.ofInt y = 0 := by rw [c64_z, c64_eq hy z_i64]; exact h
theorem isZ_n {v : Int} (h : isZ v) : narrow .boolean (.int (Int32.ofInt v)) = .int (Int32.ofInt v) := by rcases h with rfl | rfl <;> rfl
theorem isZ_v {v : Int} (h : isZ v) : vp_nar .boolean (Int32.ofInt v) = Int32.ofInt v := by rcases h with rfl | rfl <;> rfl
theorem b8_v (x : Int) : vp_nar .byte (Int32.ofInt (b8 x)) = Int32.ofInt (b8 x) := by rw [← c32_b8]; exact pk_vb _
/-! options with guards and names -/
def grd {α : Type} (P : Prop) [Decidable P] (x : Option α) : Option α := if P then x else none
def bnd {α β : Type} (a : α) (f : α → β) : β := f a
theorem grd_s {α : Type} {P : Prop} [Decidable P] {x : Option α} {r : α} (h : grd P x = some r) : P ∧ x = some r := by
  unfold grd at h
  split at h
  · exact ⟨by assumption, h⟩
  · cases h
theorem bnd_s {α β : Type} {a : α} {f : α → Option β} {r : β} (h : bnd a f = some r) : ∃ x, a = x ∧ f x = some r := ⟨a, rfl, h⟩
theorem obd_s {α β : Type} {x : Option α} {f : α → Option β} {r : β} (h : Option.bind x f = some r) : ∃ y, x = some y ∧ f y = some r := by
  cases x with
  | none => cases h
  | some y => exact ⟨y, rfl, h⟩
theorem ite_t {α : Type} {c : Prop} [Decidable c] {a b : Option α} {r : α} (hc : c) (h : (if c then a else b) = some r) : a = some r := by rw [if_pos hc] at h; exact h
theorem ite_f {α : Type} {c : Prop} [Decidable c] {a b : Option α} {r : α} (hc : ¬ c) (h : (if c then a else b) = some r) : b = some r := by rw [if_neg hc] at h; exact h
/-! the state: fields by number and object, elements by array and place; the shape: what each cell is (a class, or 20 + a place in TYs), lengths, how many cells, how many slots -/
abbrev St : Type := (Nat → Int → Int) × (Int → Int → Int)
def fl (σ : St) (f : Nat) (i : Int) : Int := σ.1 f i
def el (σ : St) (a i : Int) : Int := σ.2 a i
def sf (σ : St) (f : Nat) (i v : Int) : St := (fun f' i' => if f' = f ∧ i' = i then v else σ.1 f' i', σ.2)
def se (σ : St) (a i v : Int) : St := (σ.1, fun a' i' => if a' = a ∧ i' = i then v else σ.2 a' i')
abbrev Sh : Type := (Int → Nat) × (Int → Int) × Nat × Nat
def tg (π : Sh) (i : Int) : Nat := π.1 i
def ln (π : Sh) (i : Int) : Int := π.2.1 i
def nn (π : Sh) : Nat := π.2.2.1
def sw (π : Sh) : Nat := π.2.2.2
abbrev ob (π : Sh) (r : Int) (c : Nat) : Prop := 0 ≤ r ∧ r < nn π ∧ tg π r = c
/-- the shape has grown -/
def ext (π ρ : Sh) : Prop := nn π ≤ nn ρ ∧ sw π ≤ sw ρ ∧ ∀ i : Int, i < nn π → tg ρ i = tg π i ∧ ln ρ i = ln π i
theorem ext.rf (π : Sh) : ext π π := ⟨Nat.le_refl _, Nat.le_refl _, fun _ _ => ⟨rfl, rfl⟩⟩
theorem ext.tr {π ρ τ : Sh} (h : ext π ρ) (k : ext ρ τ) : ext π τ := ⟨Nat.le_trans h.1 k.1, Nat.le_trans h.2.1 k.2.1, fun i hi => by
  have a := h.2.2 i hi
  have b := k.2.2 i (by have := h.1; omega)
  exact ⟨b.1.trans a.1, b.2.trans a.2⟩⟩
theorem ob.ext {π ρ : Sh} {r : Int} {c : Nat} (h : ob π r c) (k : ext π ρ) : ob ρ r c := ⟨h.1, by have := k.1; have := h.2.1; omega, ((k.2.2 r h.2.1).1).trans h.2.2⟩
/-- a new object of class c with w fields, a new array of the kind t and length n -/
def nO (π : Sh) (c w : Nat) : Sh := (fun i => if i = nn π then c else tg π i, fun i => ln π i, nn π + 1, sw π + w)
def nA (π : Sh) (t : Nat) (n : Int) : Sh := (fun i => if i = nn π then 20 + t else tg π i, fun i => if i = nn π then n else ln π i, nn π + 1, sw π + n.toNat)
theorem ext_nO (π : Sh) (c w : Nat) : ext π (nO π c w) := ⟨Nat.le_succ _, Nat.le_add_right _ _, fun i hi => by
  have : ¬ i = nn π := by omega
  exact ⟨by simp [nO, tg, this], rfl⟩⟩
theorem ext_nA (π : Sh) (t : Nat) (n : Int) : ext π (nA π t n) := ⟨Nat.le_succ _, Nat.le_add_right _ _, fun i hi => by
  have : ¬ i = nn π := by omega
  exact ⟨by simp [nA, tg, this], by simp [nA, ln, this]⟩⟩
/-- fresh cells hold zeros, or nulls -/
def zO (σ : St) (i : Int) (d : Nat → Int) : St := (fun f' i' => if i' = i then d f' else σ.1 f' i', σ.2)
def zA (σ : St) (i v : Int) : St := (σ.1, fun a' j => if a' = i then v else σ.2 a' j)
