/-! what lists and copies keep -/
theorem cl_cle {π : Sh} {σ : St} (h : Cl π σ) (a n : Int) : Cl π (cle σ a n) := ⟨h.1, h.2.1, h.2.2.1, fun a' j hr => by
  show (if a' = a ∧ 0 ≤ j ∧ j < n then -1 else σ.2 a' j) < _
  split
  · omega
  · exact h.2.2.2 a' j hr⟩
theorem cl_cpR {π : Sh} {σ : St} (h : Cl π σ) {a b n : Int} (hb : 25 ≤ tg π b) : Cl π (cpe σ a b n) := ⟨h.1, h.2.1, h.2.2.1, fun a' j hr => by
  show (if a' = a ∧ 0 ≤ j ∧ j < n then σ.2 b j else σ.2 a' j) < _
  split
  · exact h.2.2.2 b j hb
  · exact h.2.2.2 a' j hr⟩
theorem cl_cpI {π : Sh} {σ : St} (h : Cl π σ) {a b n : Int} (ha : tg π a < 25) : Cl π (cpe σ a b n) := ⟨h.1, h.2.1, h.2.2.1, fun a' j hr => by
  show (if a' = a ∧ 0 ≤ j ∧ j < n then σ.2 b j else σ.2 a' j) < _
  split
  · rename_i e
    rw [e.1] at hr
    omega
  · exact h.2.2.2 a' j hr⟩
theorem any_lt {π : Sh} {v : Int} (h : anyO π v) : v < nn π := by rcases h with h | h | h <;> exact h.2.1
theorem km_L_size {π : Sh} {σ : St} {x : Int} {r : St × Int} (hC : Cl π σ) (hv : x < nn π) (hm : L_size π σ x = some r) : Cl π r.1 := by
  obtain ⟨-, hm⟩ := grd_s hm
  cases hm
  exact hC
theorem km_L_get {π : Sh} {σ : St} {x i : Int} {r : St × Int} (hC : Cl π σ) (hv : x < nn π) (hm : L_get π σ x i = some r) : Cl π r.1 ∧ r.2 < nn π := by
  obtain ⟨-, hm⟩ := grd_s hm
  obtain ⟨-, hm⟩ := grd_s hm
  obtain ⟨-, hm⟩ := grd_s hm
  obtain ⟨-, hm⟩ := grd_s hm
  obtain ⟨g1, hm⟩ := grd_s hm
  obtain ⟨-, hm⟩ := grd_s hm
  cases hm
  exact ⟨hC, cl_el hC g1 (by decide) _⟩
theorem km_L_set {π : Sh} {σ : St} {x i v : Int} {r : St × Int} (hC : Cl π σ) (hv : x < nn π) (hv2 : v < nn π) (hm : L_set π σ x i v = some r) : Cl π r.1 ∧ r.2 < nn π := by
  obtain ⟨-, hm⟩ := grd_s hm
  obtain ⟨-, hm⟩ := grd_s hm
  obtain ⟨-, hm⟩ := grd_s hm
  obtain ⟨-, hm⟩ := grd_s hm
  obtain ⟨g1, hm⟩ := grd_s hm
  obtain ⟨-, hm⟩ := grd_s hm
  obtain ⟨-, hm⟩ := grd_s hm
  cases hm
  exact ⟨cl_seR hC _ _ hv2, cl_el hC g1 (by decide) _⟩
theorem km_L_clear {π : Sh} {σ : St} {x : Int} {r : St} (hC : Cl π σ) (hv : x < nn π) (hm : L_clear π σ x = some r) : Cl π r := by
  obtain ⟨-, hm⟩ := grd_s hm
  obtain ⟨-, hm⟩ := grd_s hm
  obtain ⟨-, hm⟩ := grd_s hm
  cases hm
  exact cl_sfI (cl_sfI (cl_cle hC _ _) (f := 0) rfl _ _) (f := 2) rfl _ _
theorem km_L_add {π : Sh} {σ : St} {x v : Int} {r : Sh × St × Int} (hC : Cl π σ) (hv : x < nn π) (hv2 : v < nn π) (hm : L_add π σ x v = some r) : ext π r.1 ∧ Cl r.1 r.2.1 := by
  obtain ⟨-, hm⟩ := grd_s hm
  obtain ⟨-, hm⟩ := grd_s hm
  obtain ⟨-, hm⟩ := grd_s hm
  have c0 := cl_sfI hC (f := 0) rfl x (fl σ 0 x + 1)
  split at hm
  · obtain ⟨-, hm⟩ := grd_s hm
    cases hm
    have e := ext_nA π 7 10
    exact ⟨e, cl_sfI (cl_seR (cl_sfR (cl_nR c0 7 10) 1 x lt_nA) _ _ (lt_ext hv2 e)) (f := 2) rfl _ _⟩
  · obtain ⟨g1, hm⟩ := grd_s hm
    obtain ⟨-, hm⟩ := grd_s hm
    split at hm
    · cases hm
      exact ⟨ext.rf _, cl_sfI (cl_seR c0 _ _ hv2) (f := 2) rfl _ _⟩
    · obtain ⟨-, hm⟩ := grd_s hm
      cases hm
      have e := ext_nA π 7 (L_cap (fl σ 2 x))
      have ht : 25 ≤ tg (nA π 7 (L_cap (fl σ 2 x))) (fl σ 1 x) := by
        rw [(e.2.2 _ g1.2.1).1, g1.2.2]
        decide
      exact ⟨e, cl_sfI (cl_seR (cl_sfR (cl_cpR (cl_nR c0 7 _) ht) 1 x lt_nA) _ _ (lt_ext hv2 e)) (f := 2) rfl _ _⟩
theorem km_A_copy {π : Sh} {σ : St} {a m : Int} {r : Sh × St × Int} (hC : Cl π σ) (hv : a < nn π) (hm : A_copy π σ a m = some r) : ext π r.1 ∧ Cl r.1 r.2.1 ∧ r.2.2 < nn r.1 := by
  obtain ⟨-, hm⟩ := grd_s hm
  obtain ⟨-, hm⟩ := grd_s hm
  obtain ⟨-, hm⟩ := grd_s hm
  obtain ⟨-, hm⟩ := grd_s hm
  cases hm
  exact ⟨ext_nA π 2 m, cl_cpI (cl_nA hC (t := 2) (by decide) m) (by simp [nA, tg]), lt_nA⟩
