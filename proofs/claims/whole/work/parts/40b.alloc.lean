/-! a closed state: every reference that is held names a cell -/
def rk (f : Nat) : Bool := cKd (f / 20) (f % 20) == 2 || cKd (f / 20) (f % 20) == 3
def dfl (f : Nat) : Int := if rk f then -1 else 0
def Cl (π : Sh) (σ : St) : Prop := SHs π ∧ (∀ i : Nat, i < nn π → tg π i = 3 → i + 9 ≤ nn π) ∧ (∀ (f : Nat) (i : Int), rk f = true → fl σ f i < nn π) ∧ ∀ a j : Int, 25 ≤ tg π a → el σ a j < nn π
theorem cl_sh {π : Sh} {σ : St} (h : Cl π σ) : SHs π := h.1
theorem cl_fl {π : Sh} {σ : St} (h : Cl π σ) {f : Nat} (hf : rk f = true) (i : Int) : fl σ f i < nn π := h.2.2.1 f i hf
theorem cl_el {π : Sh} {σ : St} (h : Cl π σ) {a : Int} {t : Nat} (ha : ob π a t) (ht : 25 ≤ t) (j : Int) : el σ a j < nn π := h.2.2.2 a j (by rw [ha.2.2]; exact ht)
theorem cl_sfI {π : Sh} {σ : St} (h : Cl π σ) {f : Nat} (hf : rk f = false) (i v : Int) : Cl π (sf σ f i v) := ⟨h.1, h.2.1, fun f' i' hr => by
  have : ¬ f' = f := fun e => by rw [e, hf] at hr; cases hr
  show (if f' = f ∧ i' = i then v else σ.1 f' i') < _
  rw [if_neg (fun e => this e.1)]
  exact h.2.2.1 f' i' hr, h.2.2.2⟩
theorem cl_sfR {π : Sh} {σ : St} (h : Cl π σ) (f : Nat) (i : Int) {v : Int} (hv : v < nn π) : Cl π (sf σ f i v) := ⟨h.1, h.2.1, fun f' i' hr => by
  show (if f' = f ∧ i' = i then v else σ.1 f' i') < _
  split
  · exact hv
  · exact h.2.2.1 f' i' hr, h.2.2.2⟩
theorem cl_seI {π : Sh} {σ : St} (h : Cl π σ) {a : Int} {t : Nat} (ha : ob π a t) (ht : t < 25) (j v : Int) : Cl π (se σ a j v) := ⟨h.1, h.2.1, h.2.2.1, fun a' j' hr => by
  show (if a' = a ∧ j' = j then v else σ.2 a' j') < _
  split
  · rename_i e
    rw [e.1, ha.2.2] at hr
    omega
  · exact h.2.2.2 a' j' hr⟩
theorem cl_seR {π : Sh} {σ : St} (h : Cl π σ) (a j : Int) {v : Int} (hv : v < nn π) : Cl π (se σ a j v) := ⟨h.1, h.2.1, h.2.2.1, fun a' j' hr => by
  show (if a' = a ∧ j' = j then v else σ.2 a' j') < _
  split
  · exact hv
  · exact h.2.2.2 a' j' hr⟩
theorem cl_nO {π : Sh} {σ : St} (h : Cl π σ) {c : Nat} (hc : c < 20) (h3 : ¬ c = 3) (w : Nat) : Cl (nO π c w) (zO σ (nn π) dfl) := by
  have hn : nn (nO π c w) = nn π + 1 := rfl
  refine ⟨h.1.ext (ext_nO π c w), fun i hi ht => ?_, fun f i hr => ?_, fun a j ha => ?_⟩
  · rw [hn] at hi ⊢
    by_cases e : i = nn π
    · subst e
      simp [nO, tg] at ht
      omega
    · have e2 : ¬ ((i : Int) = (nn π : Nat)) := by omega
      simp only [nO, tg, e2, if_false] at ht
      have := h.2.1 i (by omega) ht
      omega
  · rw [hn]
    show (if i = (nn π : Int) then dfl f else σ.1 f i) < _
    split
    · simp only [dfl, hr, if_true]
      omega
    · have := h.2.2.1 f i hr
      simp only [fl] at this
      omega
  · rw [hn]
    by_cases e : a = (nn π : Int)
    · simp only [nO, tg, e, if_true] at ha
      omega
    · simp only [nO, tg, e, if_false] at ha
      have := h.2.2.2 a j ha
      simp only [el, zO] at this ⊢
      omega
theorem cl_nA {π : Sh} {σ : St} (h : Cl π σ) {t : Nat} (ht : t < 5) (n : Int) : Cl (nA π t n) (zA σ (nn π) 0) := by
  have hn : nn (nA π t n) = nn π + 1 := rfl
  refine ⟨h.1.ext (ext_nA π t n), fun i hi h3 => ?_, fun f i hr => ?_, fun a j ha => ?_⟩
  · rw [hn] at hi ⊢
    by_cases e : i = nn π
    · subst e
      simp [nA, tg] at h3
      omega
    · have e2 : ¬ ((i : Int) = (nn π : Nat)) := by omega
      simp only [nA, tg, e2, if_false] at h3
      have := h.2.1 i (by omega) h3
      omega
  · rw [hn]
    have := h.2.2.1 f i hr
    simp only [fl, zA] at this ⊢
    omega
  · rw [hn]
    by_cases e : a = (nn π : Int)
    · simp only [nA, tg, e, if_true] at ha
      omega
    · simp only [nA, tg, e, if_false] at ha
      have := h.2.2.2 a j ha
      simp only [el, zA, e, if_false] at this ⊢
      omega
theorem cl_nR {π : Sh} {σ : St} (h : Cl π σ) (t : Nat) (n : Int) : Cl (nA π t n) (zA σ (nn π) (-1)) := by
  have hn : nn (nA π t n) = nn π + 1 := rfl
  refine ⟨h.1.ext (ext_nA π t n), fun i hi h3 => ?_, fun f i hr => ?_, fun a j ha => ?_⟩
  · rw [hn] at hi ⊢
    by_cases e : i = nn π
    · subst e
      simp [nA, tg] at h3
      omega
    · have e2 : ¬ ((i : Int) = (nn π : Nat)) := by omega
      simp only [nA, tg, e2, if_false] at h3
      have := h.2.1 i (by omega) h3
      omega
  · rw [hn]
    have := h.2.2.1 f i hr
    simp only [fl, zA] at this ⊢
    omega
  · rw [hn]
    by_cases e : a = (nn π : Int)
    · simp only [el, zA, e, if_true]
      omega
    · simp only [nA, tg, e, if_false] at ha
      have := h.2.2.2 a j ha
      simp only [el, zA, e, if_false] at this ⊢
      omega
theorem gd0 {α : Type} (l : List α) (d : α) {n : Nat} (h : l.length ≤ n) : l.getD n d = d := by simp [List.getD, List.getElem?_eq_none h]
theorem rk_kd {c j : Nat} (hj : j < 20) (h : cKd c j = 2 ∨ cKd c j = 3) : rk (20 * c + j) = true := by
  have h1 : (20 * c + j) / 20 = c := by omega
  have h2 : (20 * c + j) % 20 = j := by omega
  rcases h with h | h <;> simp [rk, h1, h2, h]
theorem cN_le : ∀ c, cN.getD c 0 ≤ 19 := by
  intro c
  by_cases h : c < 13
  · have : ∀ c : Fin 13, cN.getD c.1 0 ≤ 19 := by decide
    exact this ⟨c, h⟩
  · simp only [List.getD, List.getElem?_eq_none (show cN.length ≤ c by simp [cN]; omega), Option.getD_none]
    omega
theorem cK_st : ∀ c j, ¬ cKd c j < 4 → cKd c j < 1000 → cKd c j < 60 := by
  intro c j
  by_cases h : c < 13
  · by_cases h2 : j < 20
    · have : ∀ c : Fin 13, ∀ j : Fin 20, ¬ cKd c.1 j.1 < 4 → cKd c.1 j.1 < 1000 → cKd c.1 j.1 < 60 := by decide
      exact this ⟨c, h⟩ ⟨j, h2⟩
    · have : ∀ c : Fin 13, (cK.getD c.1 []).length ≤ 20 := by decide
      have h3 := this ⟨c, h⟩
      intro h4 _
      exact absurd (show cKd c j < 4 by simp only [cKd]; rw [gd0 _ _ (by simp only at h3; omega)]; omega) h4
  · intro h4 _
    exact absurd (show cKd c j < 4 by simp only [cKd]; rw [gd0 cK _ (by simp [cK]; omega)]; simp) h4
theorem cK_rel : ∀ c j, ¬ cKd c j < 1000 → c = 3 ∧ cKd c j ≤ 1008 := by
  intro c j
  by_cases h : c < 13
  · by_cases h2 : j < 20
    · have : ∀ c : Fin 13, ∀ j : Fin 20, ¬ cKd c.1 j.1 < 1000 → c.1 = 3 ∧ cKd c.1 j.1 ≤ 1008 := by decide
      exact this ⟨c, h⟩ ⟨j, h2⟩
    · have : ∀ c : Fin 13, (cK.getD c.1 []).length ≤ 20 := by decide
      have h3 := this ⟨c, h⟩
      intro h4
      exact absurd (show cKd c j < 1000 by simp only [cKd]; rw [gd0 _ _ (by simp only at h3; omega)]; omega) h4
  · intro h4
    exact absurd (show cKd c j < 1000 by simp only [cKd]; rw [gd0 cK _ (by simp [cK]; omega)]; simp) h4
/-- a cell is the same with other addresses of cells that it doesn't name -/
theorem ccell_g {k : Nat → ClassId} {z : Nat} {g u : Nat → Nat} {π : Sh} {σ : St} (hC : Cl π σ) (hg : gx (nn π) g u) {i : Nat} (hi : i < nn π) : ccell k z u π σ i = ccell k z g π σ i := by
  have h56 := hC.1.1
  unfold ccell
  split
  · have : cFs z u σ (tg π i) i = cFs z g σ (tg π i) i := by
      unfold cFs
      apply List.map_congr_left
      intro j hj
      have hj2 := List.mem_range.mp hj
      have hj3 := cN_le (tg π i)
      have hr : ∀ x : Int, x < nn π → rfv u x = rfv g x := fun x hx => gx_rfv hg hx
      unfold cv
      split
      · rfl
      · split
        · rfl
        · split
          · rename_i h2
            exact hr _ (hC.2.2.1 _ _ (rk_kd (by omega) (Or.inl h2)))
          · split
            · rename_i h3
              have hv := hC.2.2.1 (20 * tg π i + j) i (rk_kd (by omega) (Or.inr h3))
              split
              · rfl
              · rw [hg _ (by omega)]
            · split
              · rename_i a0 a1 a2 a3 a4
                have := cK_st (tg π i) j (by omega) a4
                exact hr _ (by omega)
              · rename_i a4
                have := cK_rel (tg π i) j a4
                have := hC.2.1 i hi this.1
                exact hr _ (by omega)
    rw [this]
  · rename_i ht
    have : cAr u σ (tg π i - 20) i = cAr g σ (tg π i - 20) i := by
      unfold cAr
      split
      · rfl
      · split
        · congr 4
          funext j
          exact gx_rfo hg (hC.2.2.2 _ _ (by omega))
        · rfl
    rw [this]
theorem cW_g {k : Nat → ClassId} {z : Nat} {g u : Nat → Nat} {π : Sh} {σ : St} (hC : Cl π σ) (hg : gx (nn π) g u) : cW k z u π σ = cW k z g π σ := by
  unfold cW
  apply List.map_congr_left
  intro i hi
  have hi2 := List.mem_range.mp hi
  rw [hg i hi2, ccell_g hC hg hi2]
theorem ccell_nO {k : Nat → ClassId} {z : Nat} {g : Nat → Nat} {π : Sh} {σ : St} {c w : Nat} {d : Nat → Int} {i : Nat} (hi : i < nn π) : ccell k z g (nO π c w) (zO σ (nn π) d) i = ccell k z g π σ i := by
  have e : ¬ ((i : Int) = (nn π : Nat)) := by omega
  have et : tg (nO π c w) i = tg π i := by simp only [nO, tg, e, if_false]
  have el' : ln (nO π c w) i = ln π i := rfl
  have ef : ∀ f, fl (zO σ (nn π) d) f i = fl σ f i := fun f => by simp only [fl, zO, e, if_false]
  unfold ccell
  rw [et, el']
  simp only [cFs, ef]
  rfl
theorem ccell_nA {k : Nat → ClassId} {z : Nat} {g : Nat → Nat} {π : Sh} {σ : St} {t : Nat} {n v : Int} {i : Nat} (hi : i < nn π) : ccell k z g (nA π t n) (zA σ (nn π) v) i = ccell k z g π σ i := by
  have e : ¬ ((i : Int) = (nn π : Nat)) := by omega
  have et : tg (nA π t n) i = tg π i := by simp only [nA, tg, e, if_false]
  have el' : ln (nA π t n) i = ln π i := by simp only [nA, ln, e, if_false]
  have ee : ∀ j, el (zA σ (nn π) v) i j = el σ i j := fun j => by simp only [el, zA, e, if_false]
  unfold ccell
  rw [et, el']
  simp only [cAr, ee]
  rfl
theorem cW_nO {k : Nat → ClassId} {z : Nat} {g : Nat → Nat} {π : Sh} {σ : St} (hC : Cl π σ) (q : Nat) {c w : Nat} (hc : c < 20) {fs : List Value} (hf : ∀ (u : Nat → Nat) (i : Nat), (List.range (cN.getD c 0)).map (fun j => cv z u i (cKd c j) (dfl (20 * c + j))) = fs) : cW k z g π σ ++ [(q, .inr (c, fs))] = cW k z (gu g (nn π) q) (nO π c w) (zO σ (nn π) dfl) := by
  have hg := gx_gu g (nn π) q
  have hn : nn (nO π c w) = nn π + 1 := rfl
  unfold cW
  rw [hn, List.range_succ, List.map_append]
  congr 1
  · apply List.map_congr_left
    intro i hi
    have hi2 := List.mem_range.mp hi
    rw [hg i hi2, ccell_nO hi2, ccell_g hC hg hi2]
  · have et : tg (nO π c w) (nn π) = c := by simp [nO, tg]
    have ef : ∀ f, fl (zO σ (nn π) dfl) f (nn π) = dfl f := fun f => by simp [fl, zO]
    simp only [List.map_cons, List.map_nil, ccell, et, hc, if_true, cFs, ef, hf]
    simp [gu]
theorem cW_nA {k : Nat → ClassId} {z : Nat} {g : Nat → Nat} {π : Sh} {σ : St} (hC : Cl π σ) (q : Nat) {t : Nat} {n v : Int} {X : (Nat → Int32) ⊕ (Nat → Int64) ⊕ (Nat → UInt32) ⊕ (Nat → UInt64) ⊕ (Nat → Option Nat)} (hX : cAr (gu g (nn π) q) (zA σ (nn π) v) t (nn π) = X) : cW k z g π σ ++ [(q, .inl (k t, n.toNat, X))] = cW k z (gu g (nn π) q) (nA π t n) (zA σ (nn π) v) := by
  have hg := gx_gu g (nn π) q
  have hn : nn (nA π t n) = nn π + 1 := rfl
  unfold cW
  rw [hn, List.range_succ, List.map_append]
  congr 1
  · apply List.map_congr_left
    intro i hi
    have hi2 := List.mem_range.mp hi
    rw [hg i hi2, ccell_nA hi2, ccell_g hC hg hi2]
  · have et : tg (nA π t n) (nn π) = 20 + t := by simp [nA, tg]
    have ey : ln (nA π t n) (nn π) = n := by simp [nA, ln]
    have e20 : ¬ (20 + t < 20) := by omega
    simp only [List.map_cons, List.map_nil, ccell, et, ey, e20, if_false, Nat.add_sub_cancel_left, hX]
    simp [gu]
