/-- kinds of the fields of the 13 classes: 0 an int, 1 a long, 2 a reference, 3 the array of a list, j + 4 the cell j, 1000 + d the cell d behind -/
def cK : List (List Nat) := [[0, 3, 0], [1, 2, 0, 2, 2, 0, 2], [15, 16, 17, 18, 19, 20, 0, 21, 22, 23, 24, 25, 2, 2], [1001, 1002, 1003, 1004, 1005, 1006, 1007, 1008, 0], [8, 9, 10, 11, 12, 0, 0, 0, 0, 0], [2, 2, 1, 1, 1, 1, 0], [0, 0, 0, 0, 0, 0, 2, 2, 2, 2, 0], [5, 54, 47, 49, 2, 0, 2], [14, 0], [6, 0, 0, 0, 0, 0, 0, 0, 1, 0, 0], [0, 0, 0, 0, 0, 0, 0, 1, 2, 0, 2, 2, 2, 2], [5, 2, 0, 0, 0, 0], [5, 7, 13, 28, 37, 46, 47, 48, 55, 56, 57, 58, 59, 0, 0, 0, 0, 0, 0]]
def cN : List Nat := [3, 7, 14, 9, 10, 7, 11, 7, 2, 11, 14, 6, 19]
/-- the cells that the constructor makes: what they are, and their lengths -/
def cS : List (Nat × Int) := [(12, 0), (9, 0), (20, 2000), (4, 0), (26, 0), (26, 512), (25, 13), (22, 13), (22, 13), (8, 0), (2, 0), (23, 6000), (23, 6000), (23, 6000), (22, 6000), (24, 6000), (22, 6000), (22, 1024), (24, 1024), (23, 1024), (23, 1024), (23, 1024), (23, 1024), (23, 1024), (3, 0), (22, 400), (22, 400), (23, 400), (23, 400), (23, 400), (23, 400), (22, 400), (24, 400), (3, 0), (22, 400), (22, 400), (23, 400), (23, 400), (23, 400), (23, 400), (22, 400), (24, 400), (0, 0), (0, 0), (7, 0), (23, 21), (1, 0), (23, 4), (0, 0), (0, 0), (11, 0), (26, 8), (26, 8), (24, 8), (24, 8), (24, 8)]
def cKd (c j : Nat) : Nat := (cK.getD c []).getD j 0
def SHs (π : Sh) : Prop := 56 ≤ nn π ∧ ∀ i : Nat, i < 56 → ((tg π i, ln π i) : Nat × Int) = cS.getD i (0, 0)
theorem SHs.ext {π ρ : Sh} (h : SHs π) (k : ext π ρ) : SHs ρ := ⟨Nat.le_trans h.1 k.1, fun i hi => by
  have a := k.2.2 i (by have := h.1; omega)
  rw [a.1, a.2]
  exact h.2 i hi⟩
theorem SHs.ob {π : Sh} (h : SHs π) {i : Nat} {t : Nat} {n : Int} (hi : i < 56) (he : cS.getD i (0, 0) = (t, n)) : ob π i t := ⟨by omega, by have := h.1; omega, by have a := (h.2 i hi).trans he; exact congrArg Prod.fst a⟩
theorem SHs.ln {π : Sh} (h : SHs π) {i : Nat} {t : Nat} {n : Int} (hi : i < 56) (he : cS.getD i (0, 0) = (t, n)) : ln π i = n := by have a := (h.2 i hi).trans he; exact congrArg Prod.snd a
/-! references -/
def rfv (g : Nat → Nat) (x : Int) : Value := if x < 0 then .null else .ref (g x.toNat)
def rfo (g : Nat → Nat) (x : Int) : Option Nat := if x < 0 then none else some (g x.toNat)
theorem rfv_rf (g : Nat → Nat) (x : Int) : va_rf (rfo g x) = rfv g x := by unfold rfv rfo; split <;> rfl
theorem rfv_n {g : Nat → Nat} {x : Int} (h : x < 0) : rfv g x = .null := by unfold rfv; rw [if_pos h]
theorem rfv_s {g : Nat → Nat} {x : Int} (h : 0 ≤ x) : rfv g x = .ref (g x.toNat) := by unfold rfv; rw [if_neg (by omega)]
theorem rfo_s {g : Nat → Nat} {x : Int} (h : 0 ≤ x) : rfo g x = some (g x.toNat) := by unfold rfo; rw [if_neg (by omega)]
theorem rfo_n {g : Nat → Nat} {x : Int} (h : x < 0) : rfo g x = none := by unfold rfo; rw [if_pos h]
theorem rfv_cat (g : Nat → Nat) (x : Int) : (rfv g x).category = 1 := by unfold rfv; split <;> rfl
/-- addresses of the cells below n are the same -/
def gx (n : Nat) (g u : Nat → Nat) : Prop := ∀ i : Nat, i < n → u i = g i
theorem gx.rf (n : Nat) (g : Nat → Nat) : gx n g g := fun _ _ => rfl
theorem gx.tr {n m : Nat} {g u v : Nat → Nat} (h : gx n g u) (k : gx m u v) (hn : n ≤ m) : gx n g v := fun i hi => (k i (by omega)).trans (h i hi)
theorem gx_rfv {n : Nat} {g u : Nat → Nat} (h : gx n g u) {x : Int} (hx : x < n) : rfv u x = rfv g x := by
  unfold rfv
  split
  · rfl
  · rw [h x.toNat (by omega)]
theorem gx_rfo {n : Nat} {g u : Nat → Nat} (h : gx n g u) {x : Int} (hx : x < n) : rfo u x = rfo g x := by
  unfold rfo
  split
  · rfl
  · rw [h x.toNat (by omega)]
def gu (g : Nat → Nat) (n q : Nat) : Nat → Nat := fun i => if i = n then q else g i
theorem gx_gu (g : Nat → Nat) (n q : Nat) : gx n g (gu g n q) := fun i hi => by
  have : ¬ i = n := by omega
  simp [gu, this]
/-! a cell, the world -/
def cv (z : Nat) (g : Nat → Nat) (i : Nat) (kd : Nat) (v : Int) : Value :=
  if kd = 0 then .int (Int32.ofInt v) else if kd = 1 then .long (Int64.ofInt v) else if kd = 2 then rfv g v else if kd = 3 then (if v < 0 then .ref z else .ref (g v.toNat)) else if kd < 1000 then rfv g ((kd - 4 : Nat) : Int) else rfv g ((i + (kd - 1000) : Nat) : Int)
def cFs (z : Nat) (g : Nat → Nat) (σ : St) (c i : Nat) : List Value := (List.range (cN.getD c 0)).map (fun j => cv z g i (cKd c j) (fl σ (20 * c + j) i))
def cAr (g : Nat → Nat) (σ : St) (t i : Nat) : (Nat → Int32) ⊕ (Nat → Int64) ⊕ (Nat → UInt32) ⊕ (Nat → UInt64) ⊕ (Nat → Option Nat) :=
  if t = 3 then .inr (.inl (fun j => Int64.ofInt (el σ i j))) else if 5 ≤ t then .inr (.inr (.inr (.inr (fun j => rfo g (el σ i j))))) else .inl (fun j => Int32.ofInt (el σ i j))
def ccell (k : Nat → ClassId) (z : Nat) (g : Nat → Nat) (π : Sh) (σ : St) (i : Nat) : va_E := if tg π i < 20 then .inr (tg π i, cFs z g σ (tg π i) i) else .inl (k (tg π i - 20), (ln π i).toNat, cAr g σ (tg π i - 20) i)
def cW (k : Nat → ClassId) (z : Nat) (g : Nat → Nat) (π : Sh) (σ : St) : va_W := (List.range (nn π)).map (fun i => (g i, ccell k z g π σ i))
theorem cW_len (k : Nat → ClassId) (z : Nat) (g : Nat → Nat) (π : Sh) (σ : St) : (cW k z g π σ).length = nn π := by simp [cW]
theorem cW_at (k : Nat → ClassId) (z : Nat) (g : Nat → Nat) (π : Sh) (σ : St) {i : Nat} (h : i < nn π) : (cW k z g π σ)[i]? = some (g i, ccell k z g π σ i) := by simp [cW, h]
theorem cW_set {k : Nat → ClassId} {z : Nat} {g : Nat → Nat} {π : Sh} {σ τ : St} {i : Nat} {c : va_E} (hi : i < nn π) (hc : ccell k z g π τ i = c) (ho : ∀ j, j < nn π → j ≠ i → ccell k z g π τ j = ccell k z g π σ j) : (cW k z g π σ).set i (g i, c) = cW k z g π τ := by
  apply List.ext_getElem?
  intro j
  rw [List.getElem?_set]
  by_cases hj : i = j
  · subst hj
    rw [if_pos rfl, cW_len, if_pos hi, cW_at k z g π τ hi, hc]
  · simp only [hj, if_false]
    by_cases h2 : j < nn π
    · rw [cW_at k z g π σ h2, cW_at k z g π τ h2, ho j h2 (fun e => hj e.symm)]
    · rw [List.getElem?_eq_none (by rw [cW_len]; omega), List.getElem?_eq_none (by rw [cW_len]; omega)]
theorem toNat_c {r : Int} (h : 0 ≤ r) : ((r.toNat : Nat) : Int) = r := Int.toNat_of_nonneg h
/-- an object's cell -/
theorem cW_ob (k : Nat → ClassId) (z : Nat) (g : Nat → Nat) {π : Sh} (σ : St) {r : Int} {c : Nat} (h : ob π r c) (hc : c < 20) : (cW k z g π σ)[r.toNat]? = some (g r.toNat, .inr (c, cFs z g σ c r.toNat)) := by
  have e := toNat_c h.1
  rw [cW_at k z g π σ (by have := h.2.1; omega), ccell, e, h.2.2, if_pos hc]
/-- an array's cell -/
theorem cW_ar (k : Nat → ClassId) (z : Nat) (g : Nat → Nat) {π : Sh} (σ : St) {r : Int} {t : Nat} (h : ob π r (20 + t)) : (cW k z g π σ)[r.toNat]? = some (g r.toNat, .inl (k t, (ln π r).toNat, cAr g σ t r.toNat)) := by
  have e := toNat_c h.1
  rw [cW_at k z g π σ (by have := h.2.1; omega), ccell, e, h.2.2, if_neg (by omega), Nat.add_sub_cancel_left]
theorem cFs_len (z : Nat) (g : Nat → Nat) (σ : St) (c i : Nat) : (cFs z g σ c i).length = cN.getD c 0 := by simp [cFs]
theorem cFs_at (z : Nat) (g : Nat → Nat) (σ : St) {c j kd : Nat} {i : Int} (h0 : 0 ≤ i) (hj : j < cN.getD c 0) (hk : cKd c j = kd) : (cFs z g σ c i.toNat)[j]? = some (cv z g i.toNat kd (fl σ (20 * c + j) i)) := by
  rw [cFs, List.getElem?_map, List.getElem?_range hj]
  simp only [Option.map_some, hk, toNat_c h0]
theorem cFs_sf (z : Nat) (g : Nat → Nat) (σ : St) {c f : Nat} {i r : Int} (v : Int) {n : Nat} (hn : i ≠ (n : Int) ∨ ∀ j, j < cN.getD c 0 → 20 * c + j ≠ f) : cFs z g (sf σ f i v) c n = cFs z g σ c n := by
  unfold cFs
  apply List.map_congr_left
  intro j hj
  have hj2 := List.mem_range.mp hj
  have : ¬ (20 * c + j = f ∧ (n : Int) = i) := by
    rcases hn with h | h
    · intro e; exact h e.2.symm
    · intro e; exact h j hj2 e.1
  simp only [fl, sf, this, if_false]
theorem cFs_set (z : Nat) (g : Nat → Nat) (σ : St) {c j kd : Nat} {i : Int} (h0 : 0 ≤ i) (hj : j < cN.getD c 0) (hk : cKd c j = kd) (v : Int) : (cFs z g σ c i.toNat).set j (cv z g i.toNat kd v) = cFs z g (sf σ (20 * c + j) i v) c i.toNat := by
  apply List.ext_getElem?
  intro q
  rw [List.getElem?_set]
  by_cases hq : j = q
  · subst hq
    rw [if_pos rfl, cFs_len, if_pos hj, cFs_at z g _ h0 hj hk]
    simp [fl, sf]
  · rw [if_neg hq]
    by_cases h2 : q < cN.getD c 0
    · rw [cFs_at z g σ h0 h2 rfl, cFs_at z g _ h0 h2 rfl]
      have : ¬ (q = j) := fun e => hq e.symm
      simp [fl, sf, this]
    · rw [List.getElem?_eq_none (by rw [cFs_len]; omega), List.getElem?_eq_none (by rw [cFs_len]; omega)]
theorem cAr_sf (g : Nat → Nat) (σ : St) (t : Nat) (f : Nat) (r v : Int) (i : Nat) : cAr g (sf σ f r v) t i = cAr g σ t i := rfl
theorem cFs_se (z : Nat) (g : Nat → Nat) (σ : St) (c : Nat) (a r v : Int) (i : Nat) : cFs z g (se σ a r v) c i = cFs z g σ c i := rfl
/-- a field of an object is set -/
theorem cW_sf (k : Nat → ClassId) (z : Nat) (g : Nat → Nat) {π : Sh} (σ : St) {r : Int} {c j kd : Nat} (h : ob π r c) (hc : c < 20) (hj : j < cN.getD c 0) (hk : cKd c j = kd) (v : Int) : (cW k z g π σ).set r.toNat (g r.toNat, .inr (c, (cFs z g σ c r.toNat).set j (cv z g r.toNat kd v))) = cW k z g π (sf σ (20 * c + j) r v) := by
  have e := toNat_c h.1
  refine cW_set (by have := h.2.1; omega) ?_ ?_
  · rw [ccell, e, h.2.2, if_pos hc, cFs_set z g σ h.1 hj hk]
  · intro q hq hne
    have : r ≠ (q : Int) := by omega
    unfold ccell
    rw [cAr_sf, cFs_sf (r := r) z g σ v (Or.inl this)]
theorem cAr_i (g : Nat → Nat) (σ : St) {t i : Nat} (h : t < 3 ∨ t = 4) : cAr g σ t i = .inl (fun j : Nat => Int32.ofInt (el σ i j)) := by
  unfold cAr
  rw [if_neg (by omega), if_neg (by omega)]
theorem cAr_l (g : Nat → Nat) (σ : St) (i : Nat) : cAr g σ 3 i = .inr (.inl (fun j : Nat => Int64.ofInt (el σ i j))) := rfl
theorem cAr_q (g : Nat → Nat) (σ : St) {t i : Nat} (h : 5 ≤ t) : cAr g σ t i = .inr (.inr (.inr (.inr (fun j : Nat => rfo g (el σ i j))))) := by
  unfold cAr
  rw [if_neg (by omega), if_pos h]
theorem cAr_ne {g : Nat → Nat} {σ : St} {t q : Nat} {a r v : Int} (h : a ≠ (q : Int)) : cAr g (se σ a r v) t q = cAr g σ t q := by
  have e : ∀ j : Nat, el (se σ a r v) q j = el σ q j := fun j => by
    have : ¬ ((q : Int) = a) := fun x => h x.symm
    simp [el, se, this]
  simp only [cAr, e]
abbrev ina (π : Sh) (a i : Int) : Prop := 0 ≤ i ∧ i < ln π a ∧ i < 2147483648
theorem ina_in {π : Sh} {a i : Int} (h : ina π a i) : vp_in (Int32.ofInt i) (ln π a).toNat := vp_in_iff.mpr (by
  have h1 := h.1; have h2 := h.2.1; have h3 := h.2.2
  rw [c32_ti ⟨by omega, by omega⟩]
  exact ⟨h1, by omega⟩)
theorem ina_cl {π : Sh} {a i : Int} (h : ina π a i) : (Int32.ofInt i).toNatClampNeg = i.toNat := c32_cl h.1 h.2.2
theorem ina_i32 {π : Sh} {a i : Int} (h : ina π a i) : i32 i := ⟨by have := h.1; omega, by have := h.2.2; omega⟩
theorem ina_inb {π : Sh} {a i : Int} {n : Nat} (hl : ln π a = n) (hn : n ≤ 2147483648) (h : inb i n) : ina π a i := ⟨h.1, by rw [hl]; exact h.2, by have := h.2; omega⟩
theorem cW_se (k : Nat → ClassId) (z : Nat) (g : Nat → Nat) {π : Sh} (σ : St) {r : Int} {t : Nat} (h : ob π r (20 + t)) {i v : Int} {X : (Nat → Int32) ⊕ (Nat → Int64) ⊕ (Nat → UInt32) ⊕ (Nat → UInt64) ⊕ (Nat → Option Nat)} (hX : cAr g (se σ r i v) t r.toNat = X) : (cW k z g π σ).set r.toNat (g r.toNat, .inl (k t, (ln π r).toNat, X)) = cW k z g π (se σ r i v) := by
  have e := toNat_c h.1
  refine cW_set (by have := h.2.1; omega) ?_ ?_
  · rw [ccell, e, h.2.2, if_neg (by omega), Nat.add_sub_cancel_left, hX]
  · intro q hq hne
    have : r ≠ (q : Int) := by omega
    unfold ccell
    rw [cFs_se, cAr_ne this]
theorem up_i (σ : St) {a : Int} (ha : 0 ≤ a) {i v : Int} (h0 : 0 ≤ i) : upd (fun j : Nat => Int32.ofInt (el σ (a.toNat : Nat) j)) i.toNat (Int32.ofInt v) = fun j : Nat => Int32.ofInt (el (se σ a i v) (a.toNat : Nat) j) := by
  have := upd_i σ a.toNat i v h0
  rw [toNat_c ha] at this ⊢
  exact this
theorem up_l (σ : St) {a : Int} (ha : 0 ≤ a) {i v : Int} (h0 : 0 ≤ i) : vp_updL (fun j : Nat => Int64.ofInt (el σ (a.toNat : Nat) j)) i.toNat (Int64.ofInt v) = fun j : Nat => Int64.ofInt (el (se σ a i v) (a.toNat : Nat) j) := by
  have := upd_l σ a.toNat i v h0
  rw [toNat_c ha] at this ⊢
  exact this
theorem up_q (g : Nat → Nat) (σ : St) {a : Int} (ha : 0 ≤ a) {i v : Int} (h0 : 0 ≤ i) : va_up (fun j : Nat => rfo g (el σ (a.toNat : Nat) j)) i.toNat (rfo g v) = fun j : Nat => rfo g (el (se σ a i v) (a.toNat : Nat) j) := by
  rw [toNat_c ha]
  funext j
  by_cases hj : j = i.toNat
  · have : (j : Int) = i := by omega
    subst hj
    simp [va_up, el, se, this]
  · have : ¬ (j : Int) = i := by omega
    simp [va_up, hj, el, se, this]

theorem sh_0 {π : Sh} (h : SHs π) : ob π 0 12 := SHs.ob h (i := 0) (n := 0) (by decide) rfl
theorem sh_1 {π : Sh} (h : SHs π) : ob π 1 9 := SHs.ob h (i := 1) (n := 0) (by decide) rfl
theorem sh_2 {π : Sh} (h : SHs π) : ob π 2 20 := SHs.ob h (i := 2) (n := 2000) (by decide) rfl
theorem sl_2 {π : Sh} (h : SHs π) : ln π 2 = 2000 := SHs.ln h (i := 2) (t := 20) (by decide) rfl
theorem sh_3 {π : Sh} (h : SHs π) : ob π 3 4 := SHs.ob h (i := 3) (n := 0) (by decide) rfl
theorem sh_4 {π : Sh} (h : SHs π) : ob π 4 26 := SHs.ob h (i := 4) (n := 0) (by decide) rfl
theorem sl_4 {π : Sh} (h : SHs π) : ln π 4 = 0 := SHs.ln h (i := 4) (t := 26) (by decide) rfl
theorem sh_5 {π : Sh} (h : SHs π) : ob π 5 26 := SHs.ob h (i := 5) (n := 512) (by decide) rfl
theorem sl_5 {π : Sh} (h : SHs π) : ln π 5 = 512 := SHs.ln h (i := 5) (t := 26) (by decide) rfl
theorem sh_6 {π : Sh} (h : SHs π) : ob π 6 25 := SHs.ob h (i := 6) (n := 13) (by decide) rfl
theorem sl_6 {π : Sh} (h : SHs π) : ln π 6 = 13 := SHs.ln h (i := 6) (t := 25) (by decide) rfl
theorem sh_7 {π : Sh} (h : SHs π) : ob π 7 22 := SHs.ob h (i := 7) (n := 13) (by decide) rfl
theorem sl_7 {π : Sh} (h : SHs π) : ln π 7 = 13 := SHs.ln h (i := 7) (t := 22) (by decide) rfl
theorem sh_8 {π : Sh} (h : SHs π) : ob π 8 22 := SHs.ob h (i := 8) (n := 13) (by decide) rfl
theorem sl_8 {π : Sh} (h : SHs π) : ln π 8 = 13 := SHs.ln h (i := 8) (t := 22) (by decide) rfl
theorem sh_9 {π : Sh} (h : SHs π) : ob π 9 8 := SHs.ob h (i := 9) (n := 0) (by decide) rfl
theorem sh_10 {π : Sh} (h : SHs π) : ob π 10 2 := SHs.ob h (i := 10) (n := 0) (by decide) rfl
theorem sh_11 {π : Sh} (h : SHs π) : ob π 11 23 := SHs.ob h (i := 11) (n := 6000) (by decide) rfl
theorem sl_11 {π : Sh} (h : SHs π) : ln π 11 = 6000 := SHs.ln h (i := 11) (t := 23) (by decide) rfl
theorem sh_12 {π : Sh} (h : SHs π) : ob π 12 23 := SHs.ob h (i := 12) (n := 6000) (by decide) rfl
theorem sl_12 {π : Sh} (h : SHs π) : ln π 12 = 6000 := SHs.ln h (i := 12) (t := 23) (by decide) rfl
theorem sh_13 {π : Sh} (h : SHs π) : ob π 13 23 := SHs.ob h (i := 13) (n := 6000) (by decide) rfl
theorem sl_13 {π : Sh} (h : SHs π) : ln π 13 = 6000 := SHs.ln h (i := 13) (t := 23) (by decide) rfl
theorem sh_14 {π : Sh} (h : SHs π) : ob π 14 22 := SHs.ob h (i := 14) (n := 6000) (by decide) rfl
theorem sl_14 {π : Sh} (h : SHs π) : ln π 14 = 6000 := SHs.ln h (i := 14) (t := 22) (by decide) rfl
theorem sh_15 {π : Sh} (h : SHs π) : ob π 15 24 := SHs.ob h (i := 15) (n := 6000) (by decide) rfl
theorem sl_15 {π : Sh} (h : SHs π) : ln π 15 = 6000 := SHs.ln h (i := 15) (t := 24) (by decide) rfl
theorem sh_16 {π : Sh} (h : SHs π) : ob π 16 22 := SHs.ob h (i := 16) (n := 6000) (by decide) rfl
theorem sl_16 {π : Sh} (h : SHs π) : ln π 16 = 6000 := SHs.ln h (i := 16) (t := 22) (by decide) rfl
theorem sh_17 {π : Sh} (h : SHs π) : ob π 17 22 := SHs.ob h (i := 17) (n := 1024) (by decide) rfl
theorem sl_17 {π : Sh} (h : SHs π) : ln π 17 = 1024 := SHs.ln h (i := 17) (t := 22) (by decide) rfl
theorem sh_18 {π : Sh} (h : SHs π) : ob π 18 24 := SHs.ob h (i := 18) (n := 1024) (by decide) rfl
theorem sl_18 {π : Sh} (h : SHs π) : ln π 18 = 1024 := SHs.ln h (i := 18) (t := 24) (by decide) rfl
theorem sh_19 {π : Sh} (h : SHs π) : ob π 19 23 := SHs.ob h (i := 19) (n := 1024) (by decide) rfl
theorem sl_19 {π : Sh} (h : SHs π) : ln π 19 = 1024 := SHs.ln h (i := 19) (t := 23) (by decide) rfl
theorem sh_20 {π : Sh} (h : SHs π) : ob π 20 23 := SHs.ob h (i := 20) (n := 1024) (by decide) rfl
theorem sl_20 {π : Sh} (h : SHs π) : ln π 20 = 1024 := SHs.ln h (i := 20) (t := 23) (by decide) rfl
theorem sh_21 {π : Sh} (h : SHs π) : ob π 21 23 := SHs.ob h (i := 21) (n := 1024) (by decide) rfl
theorem sl_21 {π : Sh} (h : SHs π) : ln π 21 = 1024 := SHs.ln h (i := 21) (t := 23) (by decide) rfl
theorem sh_22 {π : Sh} (h : SHs π) : ob π 22 23 := SHs.ob h (i := 22) (n := 1024) (by decide) rfl
theorem sl_22 {π : Sh} (h : SHs π) : ln π 22 = 1024 := SHs.ln h (i := 22) (t := 23) (by decide) rfl
theorem sh_23 {π : Sh} (h : SHs π) : ob π 23 23 := SHs.ob h (i := 23) (n := 1024) (by decide) rfl
theorem sl_23 {π : Sh} (h : SHs π) : ln π 23 = 1024 := SHs.ln h (i := 23) (t := 23) (by decide) rfl
theorem sh_24 {π : Sh} (h : SHs π) : ob π 24 3 := SHs.ob h (i := 24) (n := 0) (by decide) rfl
theorem sh_25 {π : Sh} (h : SHs π) : ob π 25 22 := SHs.ob h (i := 25) (n := 400) (by decide) rfl
theorem sl_25 {π : Sh} (h : SHs π) : ln π 25 = 400 := SHs.ln h (i := 25) (t := 22) (by decide) rfl
theorem sh_26 {π : Sh} (h : SHs π) : ob π 26 22 := SHs.ob h (i := 26) (n := 400) (by decide) rfl
theorem sl_26 {π : Sh} (h : SHs π) : ln π 26 = 400 := SHs.ln h (i := 26) (t := 22) (by decide) rfl
theorem sh_27 {π : Sh} (h : SHs π) : ob π 27 23 := SHs.ob h (i := 27) (n := 400) (by decide) rfl
theorem sl_27 {π : Sh} (h : SHs π) : ln π 27 = 400 := SHs.ln h (i := 27) (t := 23) (by decide) rfl
theorem sh_28 {π : Sh} (h : SHs π) : ob π 28 23 := SHs.ob h (i := 28) (n := 400) (by decide) rfl
theorem sl_28 {π : Sh} (h : SHs π) : ln π 28 = 400 := SHs.ln h (i := 28) (t := 23) (by decide) rfl
theorem sh_29 {π : Sh} (h : SHs π) : ob π 29 23 := SHs.ob h (i := 29) (n := 400) (by decide) rfl
theorem sl_29 {π : Sh} (h : SHs π) : ln π 29 = 400 := SHs.ln h (i := 29) (t := 23) (by decide) rfl
theorem sh_30 {π : Sh} (h : SHs π) : ob π 30 23 := SHs.ob h (i := 30) (n := 400) (by decide) rfl
theorem sl_30 {π : Sh} (h : SHs π) : ln π 30 = 400 := SHs.ln h (i := 30) (t := 23) (by decide) rfl
theorem sh_31 {π : Sh} (h : SHs π) : ob π 31 22 := SHs.ob h (i := 31) (n := 400) (by decide) rfl
theorem sl_31 {π : Sh} (h : SHs π) : ln π 31 = 400 := SHs.ln h (i := 31) (t := 22) (by decide) rfl
theorem sh_32 {π : Sh} (h : SHs π) : ob π 32 24 := SHs.ob h (i := 32) (n := 400) (by decide) rfl
theorem sl_32 {π : Sh} (h : SHs π) : ln π 32 = 400 := SHs.ln h (i := 32) (t := 24) (by decide) rfl
theorem sh_33 {π : Sh} (h : SHs π) : ob π 33 3 := SHs.ob h (i := 33) (n := 0) (by decide) rfl
theorem sh_34 {π : Sh} (h : SHs π) : ob π 34 22 := SHs.ob h (i := 34) (n := 400) (by decide) rfl
theorem sl_34 {π : Sh} (h : SHs π) : ln π 34 = 400 := SHs.ln h (i := 34) (t := 22) (by decide) rfl
theorem sh_35 {π : Sh} (h : SHs π) : ob π 35 22 := SHs.ob h (i := 35) (n := 400) (by decide) rfl
theorem sl_35 {π : Sh} (h : SHs π) : ln π 35 = 400 := SHs.ln h (i := 35) (t := 22) (by decide) rfl
theorem sh_36 {π : Sh} (h : SHs π) : ob π 36 23 := SHs.ob h (i := 36) (n := 400) (by decide) rfl
theorem sl_36 {π : Sh} (h : SHs π) : ln π 36 = 400 := SHs.ln h (i := 36) (t := 23) (by decide) rfl
theorem sh_37 {π : Sh} (h : SHs π) : ob π 37 23 := SHs.ob h (i := 37) (n := 400) (by decide) rfl
theorem sl_37 {π : Sh} (h : SHs π) : ln π 37 = 400 := SHs.ln h (i := 37) (t := 23) (by decide) rfl
theorem sh_38 {π : Sh} (h : SHs π) : ob π 38 23 := SHs.ob h (i := 38) (n := 400) (by decide) rfl
theorem sl_38 {π : Sh} (h : SHs π) : ln π 38 = 400 := SHs.ln h (i := 38) (t := 23) (by decide) rfl
theorem sh_39 {π : Sh} (h : SHs π) : ob π 39 23 := SHs.ob h (i := 39) (n := 400) (by decide) rfl
theorem sl_39 {π : Sh} (h : SHs π) : ln π 39 = 400 := SHs.ln h (i := 39) (t := 23) (by decide) rfl
theorem sh_40 {π : Sh} (h : SHs π) : ob π 40 22 := SHs.ob h (i := 40) (n := 400) (by decide) rfl
theorem sl_40 {π : Sh} (h : SHs π) : ln π 40 = 400 := SHs.ln h (i := 40) (t := 22) (by decide) rfl
theorem sh_41 {π : Sh} (h : SHs π) : ob π 41 24 := SHs.ob h (i := 41) (n := 400) (by decide) rfl
theorem sl_41 {π : Sh} (h : SHs π) : ln π 41 = 400 := SHs.ln h (i := 41) (t := 24) (by decide) rfl
theorem sh_42 {π : Sh} (h : SHs π) : ob π 42 0 := SHs.ob h (i := 42) (n := 0) (by decide) rfl
theorem sh_43 {π : Sh} (h : SHs π) : ob π 43 0 := SHs.ob h (i := 43) (n := 0) (by decide) rfl
theorem sh_44 {π : Sh} (h : SHs π) : ob π 44 7 := SHs.ob h (i := 44) (n := 0) (by decide) rfl
theorem sh_45 {π : Sh} (h : SHs π) : ob π 45 23 := SHs.ob h (i := 45) (n := 21) (by decide) rfl
theorem sl_45 {π : Sh} (h : SHs π) : ln π 45 = 21 := SHs.ln h (i := 45) (t := 23) (by decide) rfl
theorem sh_46 {π : Sh} (h : SHs π) : ob π 46 1 := SHs.ob h (i := 46) (n := 0) (by decide) rfl
theorem sh_47 {π : Sh} (h : SHs π) : ob π 47 23 := SHs.ob h (i := 47) (n := 4) (by decide) rfl
theorem sl_47 {π : Sh} (h : SHs π) : ln π 47 = 4 := SHs.ln h (i := 47) (t := 23) (by decide) rfl
theorem sh_48 {π : Sh} (h : SHs π) : ob π 48 0 := SHs.ob h (i := 48) (n := 0) (by decide) rfl
theorem sh_49 {π : Sh} (h : SHs π) : ob π 49 0 := SHs.ob h (i := 49) (n := 0) (by decide) rfl
theorem sh_50 {π : Sh} (h : SHs π) : ob π 50 11 := SHs.ob h (i := 50) (n := 0) (by decide) rfl
theorem sh_51 {π : Sh} (h : SHs π) : ob π 51 26 := SHs.ob h (i := 51) (n := 8) (by decide) rfl
theorem sl_51 {π : Sh} (h : SHs π) : ln π 51 = 8 := SHs.ln h (i := 51) (t := 26) (by decide) rfl
theorem sh_52 {π : Sh} (h : SHs π) : ob π 52 26 := SHs.ob h (i := 52) (n := 8) (by decide) rfl
theorem sl_52 {π : Sh} (h : SHs π) : ln π 52 = 8 := SHs.ln h (i := 52) (t := 26) (by decide) rfl
theorem sh_53 {π : Sh} (h : SHs π) : ob π 53 24 := SHs.ob h (i := 53) (n := 8) (by decide) rfl
theorem sl_53 {π : Sh} (h : SHs π) : ln π 53 = 8 := SHs.ln h (i := 53) (t := 24) (by decide) rfl
theorem sh_54 {π : Sh} (h : SHs π) : ob π 54 24 := SHs.ob h (i := 54) (n := 8) (by decide) rfl
theorem sl_54 {π : Sh} (h : SHs π) : ln π 54 = 8 := SHs.ln h (i := 54) (t := 24) (by decide) rfl
theorem sh_55 {π : Sh} (h : SHs π) : ob π 55 24 := SHs.ob h (i := 55) (n := 8) (by decide) rfl
theorem sl_55 {π : Sh} (h : SHs π) : ln π 55 = 8 := SHs.ln h (i := 55) (t := 24) (by decide) rfl
