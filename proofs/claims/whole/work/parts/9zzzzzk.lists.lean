/-! the lists of definitions (those that hold, those of a reading) -/
section LDs
variable {N : Nat}
def LD (π : Sh) (σ : St) (x : Int) (ds : List Int) : Prop := ob π x 0 ∧ fl σ 2 x = ds.length ∧ ds.length ≤ 700 ∧ ((fl σ 1 x < 0 ∧ ds = []) ∨ (ob π (fl σ 1 x) 27 ∧ 56 ≤ fl σ 1 x ∧ (ds.length : Int) ≤ ln π (fl σ 1 x) ∧ 10 ≤ ln π (fl σ 1 x) ∧ ln π (fl σ 1 x) ≤ 1500 ∧ At (fun i D => el σ (fl σ 1 x) i = D) 0 ds)) ∧ ∀ D ∈ ds, ob π D 1
theorem LD.ar {π : Sh} {σ : St} {x : Int} {ds : List Int} (h : LD π σ x ds) : fl σ 1 x < 0 ∨ ob π (fl σ 1 x) 27 := by
  rcases h.2.2.2.1 with q | q
  · exact Or.inl q.1
  · exact Or.inr q.1
theorem LD.cp {π : Sh} {σ : St} {x : Int} {ds : List Int} (h : LD π σ x ds) : 0 ≤ cpc π σ x ∧ cpc π σ x ≤ 1500 := by
  unfold cpc
  rcases h.2.2.2.1 with q | q
  · rw [if_pos q.1]; omega
  · rw [if_neg (by have := q.2.1; omega)]; omega
theorem LD.gt {π : Sh} {σ : St} {x : Int} {ds : List Int} (h : LD π σ x ds) {i : Int} (h0 : 0 ≤ i) (h1 : i < ds.length) : ob π (fl σ 1 x) 27 ∧ i < ln π (fl σ 1 x) ∧ ∃ D ∈ ds, el σ (fl σ 1 x) i = D ∧ ds[i.toNat]? = some D := by
  obtain ⟨-, -, l7, q, -⟩ := h
  rcases q with q | ⟨q1, q2, q3, q4, q5, q6⟩
  · rw [q.2] at h1; simp at h1; omega
  · have hi : i.toNat < ds.length := by omega
    refine ⟨q1, by omega, ds[i.toNat], List.getElem_mem _, ?_, by rw [List.getElem?_eq_getElem hi]⟩
    have := At.get i.toNat q6 hi
    rw [show (0 : Int) + (i.toNat : Nat) = i by omega] at this
    exact this
/-- a list that nothing has touched -/
theorem LD.keep {π π' : Sh} {σ σ' : St} {x : Int} {ds : List Int} (h : LD π σ x ds) (he : ext π π') (h1 : fl σ' 1 x = fl σ 1 x ∧ fl σ' 2 x = fl σ 2 x) (h2 : 0 ≤ fl σ 1 x → ∀ j, el σ' (fl σ 1 x) j = el σ (fl σ 1 x) j) : LD π' σ' x ds := by
  obtain ⟨a1, a2, a3, a4, a5⟩ := h
  unfold LD
  rw [h1.1, h1.2]
  refine ⟨a1.ext he, a2, a3, ?_, fun D hD => (a5 D hD).ext he⟩
  rcases a4 with q | ⟨q1, q2, q3, q4, q5, q6⟩
  · exact Or.inl q
  · refine Or.inr ?_
    rw [(he.2.2 _ q1.2.1).2]
    exact ⟨q1.ext he, q2, q3, q4, q5, q6.mono (fun i D _ _ _ hq => by rw [h2 (by omega)]; exact hq)⟩
theorem FLs.rf (x : Int) (π : Sh) (σ : St) : FLs x π σ π σ := ⟨ext.rf _, fun _ _ _ _ => rfl, fun _ _ _ _ => rfl, Or.inl rfl⟩
theorem FLs.tr {x : Int} {π π1 π2 : Sh} {σ σ1 σ2 : St} (h : FLs x π σ π1 σ1) (k : FLs x π1 σ1 π2 σ2) : FLs x π σ π2 σ2 := by
  have e := h.1.1
  refine ⟨h.1.tr k.1, fun f i a b => (k.2.1 f i (by omega) b).trans (h.2.1 f i a b), fun a j b c => ?_, ?_⟩
  · rw [k.2.2.1 a j (by omega) (by rcases h.2.2.2 with q | q <;> omega), h.2.2.1 a j b c]
  · rcases k.2.2.2 with q | q
    · rw [q]; exact h.2.2.2
    · right; omega
theorem FLs.hx {x : Int} {π π' : Sh} {σ σ' : St} (h : FLs x π σ π' σ') (hx : x = 42 ∨ x = 43) (ha : fl σ 1 x < 0 ∨ ob π (fl σ 1 x) 27) : HX π σ π' σ' := by
  refine ⟨h.1, fun f i _ h3 hi => h.2.1 f i hi (by omega), fun a j a1 a2 a3 => h.2.2.1 a j a2 (fun e => ?_), fun y y1 y2 y3 _ => ⟨⟨h.2.1 1 y y3 (by omega), h.2.1 2 y y3 (by omega)⟩, fun b1 b2 b3 b4 j => h.2.2.1 _ j b2 (by rcases hx with q | q <;> rw [q] <;> assumption)⟩, fun h43 => ?_⟩
  · rcases ha with q | q
    · omega
    · rw [← e] at q; exact a3 q.2.2
  · rcases hx with q | q
    · subst q; exact ⟨h.2.2.2, Or.inl (h.2.1 1 43 (by omega) (by omega))⟩
    · subst q; exact ⟨Or.inl (h.2.1 1 42 (by omega) (by omega)), h.2.2.2⟩
theorem ld_clear {π : Sh} {σ : St} {x : Int} {ds : List Int} (h : LD π σ x ds) : ∃ σ', L_clear π σ x = some σ' ∧ FLs x π σ π σ' ∧ LD π σ' x [] ∧ cpc π σ' x = cpc π σ x ∧ fl σ' 1 x = fl σ 1 x := by
  obtain ⟨a1, a2, a3, a4, a5⟩ := h
  obtain ⟨σ', hσ'⟩ : ∃ σ', σ' = sf (sf (cle σ (fl σ 1 x) (fl σ 2 x)) 0 x (fl σ 0 x + 1)) 2 x 0 := ⟨_, rfl⟩
  have cf : ∀ (f : Nat) (i : Int), fl (cle σ (fl σ 1 x) (fl σ 2 x)) f i = fl σ f i := fun _ _ => rfl
  have ce : ∀ a j : Int, el (cle σ (fl σ 1 x) (fl σ 2 x)) a j = if a = fl σ 1 x ∧ 0 ≤ j ∧ j < fl σ 2 x then -1 else el σ a j := fun _ _ => rfl
  have f1 : fl σ' 1 x = fl σ 1 x := by rw [hσ', fl_sfn _ _ _ _ (by decide), fl_sfn _ _ _ _ (by decide), cf]
  have f2 : fl σ' 2 x = 0 := by rw [hσ', fl_sfs]
  refine ⟨σ', ?_, ⟨ext.rf _, fun f i _ hx => ?_, fun a j _ ha => ?_, Or.inl f1⟩, ⟨a1, by rw [f2]; rfl, by simp, ?_, fun D hD => absurd hD (by simp)⟩, by unfold cpc; rw [f1], f1⟩
  · rw [L_clear, grd_t a1, grd_t (by rw [a2]; exact ⟨by omega, by omega, by omega⟩), grd_t (by
      rcases a4 with q | q
      · left; rw [a2, q.2]; rfl
      · right; exact ⟨q.1, by rw [a2]; exact q.2.2.1⟩), hσ']
  · rw [hσ', fl_sf, if_neg (by omega), fl_sf, if_neg (by omega), cf]
  · rw [hσ', el_sf, el_sf, ce, if_neg (by omega)]
  · rw [f1]
    rcases a4 with q | ⟨q1, q2, q3, q4, q5, q6⟩
    · exact Or.inl ⟨q.1, rfl⟩
    · exact Or.inr ⟨q1, q2, by simp; omega, q4, q5, trivial⟩
theorem ld_add {π : Sh} {σ : St} {x v : Int} {ds : List Int} (h : LD π σ x ds) (hl : ds.length < 700) (hn : 56 ≤ nn π) (hv : ob π v 1) : ∃ π' σ', L_add π σ x v = some (π', σ', 1) ∧ FLs x π σ π' σ' ∧ LD π' σ' x (ds ++ [v]) ∧ nn π' ≤ nn π + 1 ∧ (sw π' : Int) + 4 * cpc π σ x ≤ sw π + 4 * cpc π' σ' x := by
  obtain ⟨a1, a2, a3, a4, a5⟩ := h
  have l0 : ((ds ++ [v]).length : Int) = ds.length + 1 := by rw [List.length_append]; simp
  have lN : (ds ++ [v]).length = ds.length + 1 := by rw [List.length_append]; simp
  have xn := a1.2.1
  have hO : ∀ D ∈ ds ++ [v], ob π D 1 := fun D hD => by
    rcases List.mem_append.1 hD with q | q
    · exact a5 D q
    · rw [List.mem_singleton.1 q]; exact hv
  rcases a4 with ⟨cE, le⟩ | ⟨c1, c2, c3, c4, c5, c6⟩
  · subst le
    obtain ⟨σ', hσ'⟩ : ∃ σ', σ' = sf (se (sf (zA (sf σ 0 x (fl σ 0 x + 1)) (nn π) (-1)) 1 x (nn π)) (nn π) 0 v) 2 x 1 := ⟨_, rfl⟩
    have f1 : fl σ' 1 x = nn π := by rw [hσ', fl_sfn _ _ _ _ (by decide), fl_se, fl_sfs]
    have f2 : fl σ' 2 x = 1 := by rw [hσ', fl_sfs]
    have ff : ∀ (f : Nat) i, ¬ (i = x ∧ f ≤ 2) → fl σ' f i = fl σ f i := fun f i hx => by rw [hσ', fl_sf, if_neg (by omega), fl_se, fl_sf, if_neg (by omega), fl_zA, fl_sf, if_neg (by omega)]
    have ee : ∀ a j : Int, a < nn π → el σ' a j = el σ a j := fun a j ha => by rw [hσ', el_sf, el_sen _ _ _ _ (by omega), el_sf, el_zA, if_neg (by omega), el_sf]
    refine ⟨nA π 7 10, σ', ?_, ⟨ext_nA _ _ _, fun f i _ hx => ff f i hx, fun a j ha _ => ee a j ha, Or.inr (by omega)⟩, ⟨a1.ext (ext_nA _ _ _), by rw [f2]; rfl, by simp, Or.inr ?_, fun D hD => (hO D hD).ext (ext_nA _ _ _)⟩, by rw [nn_nA]; omega, ?_⟩
    · rw [L_add, grd_t a1, grd_t (Or.inl hv), a2, grd_t (by simp), if_pos cE, grd_t (by simp), hσ']
    · rw [f1]
      refine ⟨ob_nA π 7 10, by omega, by rw [ln_nA]; simp, by rw [ln_nA]; decide, by rw [ln_nA]; decide, ?_, trivial⟩
      show el σ' (nn π) 0 = v
      rw [hσ', el_sf, el_ses]
    · unfold cpc
      rw [if_pos cE, f1, if_neg (by omega), ln_nA]
      show ((sw π + (10 : Int).toNat : Nat) : Int) + 0 ≤ _
      omega
  · have cE : ¬ fl σ 1 x < 0 := by omega
    have En := c1.2.1
    by_cases cs : (ds.length : Int) < ln π (fl σ 1 x)
    · obtain ⟨σ', hσ'⟩ : ∃ σ', σ' = sf (se (sf σ 0 x (fl σ 0 x + 1)) (fl σ 1 x) ds.length v) 2 x (ds.length + 1) := ⟨_, rfl⟩
      have f1 : fl σ' 1 x = fl σ 1 x := by rw [hσ', fl_sfn _ _ _ _ (by decide), fl_se, fl_sfn _ _ _ _ (by decide)]
      have f2 : fl σ' 2 x = ds.length + 1 := by rw [hσ', fl_sfs]
      have ff : ∀ (f : Nat) i, ¬ (i = x ∧ f ≤ 2) → fl σ' f i = fl σ f i := fun f i hx => by rw [hσ', fl_sf, if_neg (by omega), fl_se, fl_sf, if_neg (by omega)]
      have ee : ∀ a j : Int, ¬ (a = fl σ 1 x ∧ j = ds.length) → el σ' a j = el σ a j := fun a j ha => by rw [hσ', el_sf, el_se, if_neg ha, el_sf]
      refine ⟨π, σ', ?_, ⟨ext.rf _, fun f i _ hx => ff f i hx, fun a j _ ha => ee a j (fun h => ha h.1), Or.inl f1⟩, ⟨a1, by rw [f2, l0], by omega, Or.inr ?_, hO⟩, by omega, by unfold cpc; rw [f1]; omega⟩
      · rw [L_add, grd_t a1, grd_t (Or.inl hv), a2, grd_t (by omega), if_neg cE, grd_t c1, grd_t (by omega), if_pos cs, hσ']
      · rw [f1, l0]
        refine ⟨c1, by omega, by omega, c4, c5, At.snoc (c6.mono (fun i e i0 i1 he hk => by rw [ee _ _ (by omega)]; exact hk)) ?_⟩
        rw [Int.zero_add, hσ', el_sf, el_ses]
    · have lc : ln π (fl σ 1 x) = ds.length := by omega
      obtain ⟨cp, hcp⟩ : ∃ cp, cp = L_cap (ds.length : Int) := ⟨_, rfl⟩
      have cpb : (ds.length : Int) < cp ∧ cp ≤ 2 * ds.length ∧ ds.length ≤ 3 * (cp - ds.length) := by rw [hcp]; unfold L_cap; omega
      obtain ⟨σ', hσ'⟩ : ∃ σ', σ' = sf (se (sf (cpe (zA (sf σ 0 x (fl σ 0 x + 1)) (nn π) (-1)) (nn π) (fl σ 1 x) ds.length) 1 x (nn π)) (nn π) ds.length v) 2 x (ds.length + 1) := ⟨_, rfl⟩
      have cpf : ∀ (σ' : St) (a b n : Int) (f : Nat) (i : Int), fl (cpe σ' a b n) f i = fl σ' f i := fun _ _ _ _ _ _ => rfl
      have cpl : ∀ (σ' : St) (a b n x j : Int), el (cpe σ' a b n) x j = if x = a ∧ 0 ≤ j ∧ j < n then el σ' b j else el σ' x j := fun _ _ _ _ _ _ => rfl
      have f1 : fl σ' 1 x = nn π := by rw [hσ', fl_sfn _ _ _ _ (by decide), fl_se, fl_sfs]
      have f2 : fl σ' 2 x = ds.length + 1 := by rw [hσ', fl_sfs]
      have ff : ∀ (f : Nat) i, ¬ (i = x ∧ f ≤ 2) → fl σ' f i = fl σ f i := fun f i hx => by rw [hσ', fl_sf, if_neg (by omega), fl_se, fl_sf, if_neg (by omega), cpf, fl_zA, fl_sf, if_neg (by omega)]
      have ee : ∀ a j : Int, a < nn π → el σ' a j = el σ a j := fun a j ha => by rw [hσ', el_sf, el_sen _ _ _ _ (by omega), el_sf, cpl, if_neg (by omega), el_zA, if_neg (by omega), el_sf]
      have eo : ∀ j : Int, 0 ≤ j → j < ds.length → el σ' (nn π) j = el σ (fl σ 1 x) j := fun j j0 j1 => by rw [hσ', el_sf, el_sej _ _ _ (by omega), el_sf, cpl, if_pos ⟨rfl, j0, j1⟩, el_zA, if_neg (by omega), el_sf]
      have al : allO π σ (fl σ 1 x) ds.length := fun j hj => by
        obtain ⟨e, e1, e2, -⟩ := At.both c6 c6 (j : Int) (by omega) (by omega)
        exact Or.inr (Or.inl (by rw [e2]; exact a5 e e1))
      refine ⟨nA π 7 cp, σ', ?_, ⟨ext_nA _ _ _, fun f i _ hx => ff f i hx, fun a j ha _ => ee a j ha, Or.inr (by omega)⟩, ⟨a1.ext (ext_nA _ _ _), by rw [f2, l0], by omega, Or.inr ?_, fun D hD => (hO D hD).ext (ext_nA _ _ _)⟩, by rw [nn_nA]; omega, ?_⟩
      · rw [L_add, grd_t a1, grd_t (Or.inl hv), a2, grd_t (by omega), if_neg cE, grd_t c1, grd_t (by omega), if_neg cs, grd_t ⟨by omega, by omega, al⟩, ← hcp, hσ']
      · rw [f1, l0]
        refine ⟨ob_nA π 7 cp, by omega, by rw [ln_nA]; omega, by rw [ln_nA]; omega, by rw [ln_nA]; omega, At.snoc (c6.mono (fun i e i0 i1 he hk => by rw [eo i (by omega) (by omega)]; exact hk)) ?_⟩
        rw [Int.zero_add, hσ', el_sf, el_ses]
      · unfold cpc
        rw [if_neg cE, f1, if_neg (by omega), ln_nA, lc]
        show ((sw π + cp.toNat : Nat) : Int) + 4 * (ds.length : Int) ≤ _
        omega
/-- one definition in another's place -/
theorem ld_set {π : Sh} {σ : St} {x v i : Int} {ds : List Int} (h : LD π σ x ds) (h0 : 0 ≤ i) (h1 : i < ds.length) (hv : ob π v 1) : ∃ σ' w, L_set π σ x i v = some (σ', w) ∧ FLs x π σ π σ' ∧ LD π σ' x (ds.set i.toNat v) ∧ cpc π σ' x = cpc π σ x ∧ fl σ' 1 x = fl σ 1 x := by
  obtain ⟨g1, g2, -⟩ := h.gt h0 h1
  obtain ⟨a1, a2, a3, a4, a5⟩ := h
  refine ⟨se σ (fl σ 1 x) i v, el σ (fl σ 1 x) i, ?_, ⟨ext.rf _, fun _ _ _ _ => rfl, fun a j _ ha => el_sen _ _ _ _ ha, Or.inl rfl⟩, ⟨a1, by rw [fl_se, a2, List.length_set], by rw [List.length_set]; exact a3, ?_, fun D hD => ?_⟩, rfl, rfl⟩
  · rw [L_set, grd_t a1, grd_t (by exact ⟨by omega, by omega⟩), grd_t (by rw [a2]; exact ⟨by omega, by omega⟩), grd_t (by rw [a2]; exact ⟨h0, h1⟩), grd_t g1, grd_t (by exact ⟨h0, g2, by omega⟩), grd_t (Or.inl hv)]
  · rw [fl_se, List.length_set]
    rcases a4 with q | ⟨q1, q2, q3, q4, q5, q6⟩
    · rw [q.2] at h1; simp at h1; omega
    · refine Or.inr ⟨q1, q2, q3, q4, q5, ?_⟩
      have key : ∀ (l : List Int) (k : Nat) (a : Int), k < l.length → At (fun j D => el σ (fl σ 1 x) j = D) a l → At (fun j D => el (se σ (fl σ 1 x) (a + k) v) (fl σ 1 x) j = D) a (l.set k v) := by
        intro l
        induction l with
        | nil => intro k a hk; simp at hk
        | cons y l ih =>
          intro k a hk hA
          cases k with
          | zero =>
            refine ⟨by show el (se σ (fl σ 1 x) (a + ((0 : Nat) : Int)) v) (fl σ 1 x) a = v; rw [show a + ((0 : Nat) : Int) = a by omega, el_ses], hA.2.mono (fun j e j0 j1 _ hq => ?_)⟩
            rw [el_se, if_neg (by omega)]; exact hq
          | succ k =>
            refine ⟨by show el (se σ (fl σ 1 x) (a + ((k + 1 : Nat) : Int)) v) (fl σ 1 x) a = y; rw [el_se, if_neg (by omega)]; exact hA.1, ?_⟩
            have := ih k (a + 1) (by simpa using hk) hA.2
            rw [show a + ((k + 1 : Nat) : Int) = a + 1 + (k : Int) by omega]
            exact this
      have := key ds i.toNat 0 (by omega) q6
      rw [show (0 : Int) + (i.toNat : Nat) = i by omega] at this
      exact this
  · rcases List.mem_or_eq_of_mem_set hD with q | q
    · exact a5 D q
    · rw [q]; exact hv
/-- all of one list come into another -/
theorem c_copy_lp {x0 x1 : Int} (h01 : x0 ≠ x1) : ∀ (m n : Nat) (π : Sh) (σ : St) (ds : List Int) (i : Nat), m = ds.length - i → m < n → i ≤ ds.length → 56 ≤ nn π → LD π σ x0 ds → LD π σ x1 (ds.take i) → (0 ≤ fl σ 1 x0 → fl σ 1 x0 ≠ fl σ 1 x1) → ∃ π' σ', Cs_copyDefinitions_6 N n π σ x0 x1 i = some (π', σ') ∧ FLs x1 π σ π' σ' ∧ LD π' σ' x0 ds ∧ LD π' σ' x1 ds ∧ (0 ≤ fl σ' 1 x0 → fl σ' 1 x0 ≠ fl σ' 1 x1) ∧ nn π' ≤ nn π + m ∧ (sw π' : Int) + 4 * cpc π σ x1 ≤ sw π + 4 * cpc π' σ' x1 := by
  intro m
  induction m with
  | zero =>
    intro n π σ ds i hm hn hi h56 h0 h1 hd
    obtain ⟨n, rfl⟩ : ∃ k, n = k + 1 := ⟨n - 1, by omega⟩
    have ei : i = ds.length := by omega
    have e2 := h0.2.1
    have l7 := h0.2.2.1
    refine ⟨π, σ, ?_, FLs.rf _ _ _, h0, by rw [ei, List.take_length] at h1; exact h1, hd, by omega, by omega⟩
    rw [Cs_copyDefinitions_6, L_size, grd_t h0.1, Option.bind_some, grd_t h0.1, grd_t (by exact ⟨by omega, by omega⟩)]
    simp only
    rw [e2, grd_t (by exact ⟨by omega, by omega⟩), if_neg (by omega)]
  | succ m ih =>
    intro n π σ ds i hm hn hi h56 h0 h1 hd
    obtain ⟨n, rfl⟩ : ∃ k, n = k + 1 := ⟨n - 1, by omega⟩
    have e2 := h0.2.1
    have l7 := h0.2.2.1
    obtain ⟨g1, g2, D, gD, g3, g4⟩ := h0.gt (i := (i : Int)) (by omega) (by omega)
    have oD := h0.2.2.2.2 D gD
    obtain ⟨π1, σ1, p1, p2, p3, p4, p5⟩ := ld_add h1 (by rw [List.length_take]; omega) h56 oD
    have x0n := h0.1.2.1
    have h0' : LD π1 σ1 x0 ds := h0.keep p2.1 ⟨p2.2.1 1 x0 x0n (by omega), p2.2.1 2 x0 x0n (by omega)⟩ (fun a j => p2.2.2.1 _ j g1.2.1 (hd a))
    have tk : ds.take i ++ [D] = ds.take (i + 1) := by
      rw [show ((i : Int)).toNat = i by omega] at g4
      rw [List.take_succ, g4]; rfl
    rw [tk] at p3
    have e10 : fl σ1 1 x0 = fl σ 1 x0 := p2.2.1 1 x0 x0n (by omega)
    obtain ⟨π2, σ2, q1, q2, q3, q4, q5, q6, q7⟩ := ih n π1 σ1 ds (i + 1) (by omega) (by omega) (by omega) (by have := p2.1.1; omega) h0' p3 (fun a => by
      rw [e10] at a ⊢
      rcases p2.2.2.2 with w | w
      · rw [w]; exact hd a
      · have := g1.2.1; omega)
    refine ⟨π2, σ2, ?_, p2.tr q2, q3, q4, q5, by omega, by omega⟩
    rw [Cs_copyDefinitions_6, L_size, grd_t h0.1, Option.bind_some, grd_t h0.1, grd_t (by exact ⟨by omega, by omega⟩)]
    simp only
    rw [e2, grd_t (by exact ⟨by omega, by omega⟩), if_pos (by omega), L_get, grd_t h0.1, grd_t (by exact ⟨by omega, by omega⟩), e2, grd_t (by exact ⟨by omega, by omega⟩), grd_t (by exact ⟨by omega, by omega⟩), grd_t g1, grd_t (by exact ⟨by omega, g2, by omega⟩), Option.bind_some]
    simp only
    rw [g3, grd_t oD, p1, Option.bind_some, grd_t h1.1]
    exact q1
theorem c_copy {x0 x1 : Int} {π : Sh} {σ : St} {ds ds1 : List Int} (hN : 1000 ≤ N) (h01 : x0 ≠ x1) (h56 : 56 ≤ nn π) (h0 : LD π σ x0 ds) (h1 : LD π σ x1 ds1) (hd : 0 ≤ fl σ 1 x0 → fl σ 1 x0 ≠ fl σ 1 x1) : ∃ π' σ', Cs_copyDefinitions N π σ x0 x1 = some (π', σ') ∧ FLs x1 π σ π' σ' ∧ LD π' σ' x0 ds ∧ LD π' σ' x1 ds ∧ (0 ≤ fl σ' 1 x0 → fl σ' 1 x0 ≠ fl σ' 1 x1) ∧ nn π' ≤ nn π + ds.length ∧ (sw π' : Int) + 4 * cpc π σ x1 ≤ sw π + 4 * cpc π' σ' x1 := by
  obtain ⟨σ1, p1, p2, p3, p4, p5⟩ := ld_clear h1
  have x0n := h0.1.2.1
  have e10 : fl σ1 1 x0 = fl σ 1 x0 := p2.2.1 1 x0 x0n (by omega)
  have a0 := h0.ar
  have h0' : LD π σ1 x0 ds := h0.keep p2.1 ⟨e10, p2.2.1 2 x0 x0n (by omega)⟩ (fun a j => p2.2.2.1 _ j (by rcases a0 with q | q <;> omega) (hd a))
  have l7 := h0.2.2.1
  obtain ⟨π2, σ2, q1, q2, q3, q4, q5, q6, q7⟩ := c_copy_lp (N := N) h01 ds.length N π σ1 ds 0 (by omega) (by omega) (by omega) h56 h0' p3 (fun a => by rw [e10] at a ⊢; rw [p5]; exact hd a)
  refine ⟨π2, σ2, ?_, p2.tr q2, q3, q4, q5, q6, by rw [← p4]; exact q7⟩
  rw [Cs_copyDefinitions, p1, Option.bind_some, grd_t h1.1]
  exact q1
end LDs
