/-! a list of the class gets one more -/
def FLs (x : Int) (π : Sh) (σ : St) (π' : Sh) (σ' : St) : Prop := ext π π' ∧ (∀ (f : Nat) (i : Int), i < nn π → ¬ (i = x ∧ f ≤ 2) → fl σ' f i = fl σ f i) ∧ (∀ a j : Int, a < nn π → a ≠ fl σ 1 x → el σ' a j = el σ a j) ∧ (fl σ' 1 x = fl σ 1 x ∨ nn π ≤ fl σ' 1 x)
def cpc (π : Sh) (σ : St) (x : Int) : Int := if fl σ 1 x < 0 then 0 else ln π (fl σ 1 x)
def LSc {α : Type} (π : Sh) (σ : St) (x : Int) (R : Int → α → Prop) (l : List α) : Prop := LSq π σ x R l ∧ ((l = [] ∧ fl σ 1 x < 0) ∨ (ob π (fl σ 1 x) 27 ∧ 56 ≤ fl σ 1 x ∧ (l.length : Int) ≤ ln π (fl σ 1 x) ∧ ln π (fl σ 1 x) ≤ 2 * l.length + 12 ∧ 10 ≤ ln π (fl σ 1 x) ∧ fl σ 1 x ≠ fl σ 1 42 ∧ fl σ 1 x ≠ fl σ 1 43))
theorem FLs.hp {x : Int} {π π' : Sh} {σ σ' : St} (h : FLs x π σ π' σ') (hx : fl σ 1 x < 0 ∨ ob π (fl σ 1 x) 27) : HP π σ π' σ' := ⟨h.1, fun f i _ h3 hi => h.2.1 f i hi (by omega), fun a j ha hn ht => h.2.2.1 a j hn (fun e => by
  rcases hx with hx | hx
  · omega
  · rw [← e] at hx; exact ht hx.2.2)⟩
theorem c_ladd {α : Type} {π : Sh} {σ : St} {x v : Int} {R : Int → α → Prop} {R' : Sh → St → Int → α → Prop} {l : List α} {e' : α} (h : LSc π σ x R l) (hl : l.length ≤ 20000) (h42 : fl σ 1 42 < nn π ∧ fl σ 1 43 < nn π) (hn : 56 ≤ nn π) (hR : ∀ π' σ', FLs x π σ π' σ' → ∀ r e, e ∈ l → R r e → R' π' σ' r e) (hv : ∀ π' σ', FLs x π σ π' σ' → R' π' σ' v e') (hO : ∀ r e, e ∈ l → R r e → anyO π r) (hv' : anyO π v) : ∃ π' σ', L_add π σ x v = some (π', σ', 1) ∧ FLs x π σ π' σ' ∧ LSc π' σ' x (R' π' σ') (l ++ [e']) ∧ nn π' ≤ nn π + 1 ∧ (sw π' : Int) + 4 * cpc π σ x ≤ sw π + 4 * cpc π' σ' x := by
  obtain ⟨⟨a1, a2, a3, a4, a5, a6, a7⟩, hc⟩ := h
  have l0 : ((l ++ [e']).length : Int) = l.length + 1 := by rw [List.length_append]; simp
  have lN : (l ++ [e']).length = l.length + 1 := by rw [List.length_append]; simp
  have xn := a1.2.1
  by_cases cE : fl σ 1 x < 0
  · -- the first
    have le : l = [] := by
      rcases hc with hc | hc
      · exact hc.1
      · have := hc.2.1; omega
    subst le
    obtain ⟨σ', hσ'⟩ : ∃ σ', σ' = sf (se (sf (zA (sf σ 0 x (fl σ 0 x + 1)) (nn π) (-1)) 1 x (nn π)) (nn π) 0 v) 2 x 1 := ⟨_, rfl⟩
    have f1 : fl σ' 1 x = nn π := by rw [hσ', fl_sfn _ _ _ _ (by decide), fl_se, fl_sfs]
    have f2 : fl σ' 2 x = 1 := by rw [hσ', fl_sfs]
    have ff : ∀ (f : Nat) i, ¬ (i = x ∧ f ≤ 2) → fl σ' f i = fl σ f i := fun f i hx => by rw [hσ', fl_sf, if_neg (by omega), fl_se, fl_sf, if_neg (by omega), fl_zA, fl_sf, if_neg (by omega)]
    have ee : ∀ a j : Int, a < nn π → el σ' a j = el σ a j := fun a j ha => by rw [hσ', el_sf, el_sen _ _ _ _ (by omega), el_sf, el_zA, if_neg (by omega), el_sf]
    have fls : FLs x π σ (nA π 7 10) σ' := ⟨ext_nA _ _ _, fun f i _ hx => ff f i hx, fun a j ha _ => ee a j ha, Or.inr (by omega)⟩
    refine ⟨nA π 7 10, σ', ?_, fls, ⟨⟨a1.ext fls.1, by rw [f2]; rfl, by simp, fun _ => ?_, a5, a6, fun _ => ?_⟩, Or.inr ?_⟩, by rw [nn_nA]; omega, ?_⟩
    · rw [L_add, grd_t a1, grd_t hv', a2, grd_t (by simp), if_pos cE, grd_t (by simp), hσ']
    · rw [f1]
      refine ⟨ob_nA π 7 10, by rw [ln_nA]; simp, by rw [ln_nA]; decide, by omega, ?_, trivial⟩
      have q : el σ' (nn π) 0 = v := by rw [hσ', el_sf, el_ses]
      show R' (nA π 7 10) σ' (el σ' (nn π) 0) e'
      rw [q]
      exact hv _ _ fls
    · rw [f1, ff 1 42 (by omega), ff 1 43 (by omega)]; omega
    · rw [f1, ff 1 42 (by omega), ff 1 43 (by omega)]; exact ⟨ob_nA π 7 10, by omega, by rw [ln_nA]; simp, by rw [ln_nA]; simp, by rw [ln_nA]; decide, by omega, by omega⟩
    · unfold cpc
      rw [if_pos cE, f1, if_neg (by omega), ln_nA]
      show ((sw π + (10 : Int).toNat : Nat) : Int) + 0 ≤ _
      omega
  · rcases hc with hc | ⟨c1, c2, c3, c4, c5, nn'⟩
    · exact absurd hc.2 cE
    · have En := c1.2.1
      by_cases cs : (l.length : Int) < ln π (fl σ 1 x)
      · -- there is room
        obtain ⟨σ', hσ'⟩ : ∃ σ', σ' = sf (se (sf σ 0 x (fl σ 0 x + 1)) (fl σ 1 x) l.length v) 2 x (l.length + 1) := ⟨_, rfl⟩
        have f1 : fl σ' 1 x = fl σ 1 x := by rw [hσ', fl_sfn _ _ _ _ (by decide), fl_se, fl_sfn _ _ _ _ (by decide)]
        have f2 : fl σ' 2 x = l.length + 1 := by rw [hσ', fl_sfs]
        have ff : ∀ (f : Nat) i, ¬ (i = x ∧ f ≤ 2) → fl σ' f i = fl σ f i := fun f i hx => by rw [hσ', fl_sf, if_neg (by omega), fl_se, fl_sf, if_neg (by omega)]
        have ee : ∀ a j : Int, ¬ (a = fl σ 1 x ∧ j = l.length) → el σ' a j = el σ a j := fun a j ha => by rw [hσ', el_sf, el_se, if_neg ha, el_sf]
        have fls : FLs x π σ π σ' := ⟨ext.rf _, fun f i _ hx => ff f i hx, fun a j _ ha => ee a j (fun h => ha h.1), Or.inl f1⟩
        have e42 : fl σ' 1 42 = fl σ 1 42 := ff 1 42 (by omega)
        have e43 : fl σ' 1 43 = fl σ 1 43 := ff 1 43 (by omega)
        refine ⟨π, σ', ?_, fls, ⟨⟨a1, by rw [f2, l0], by omega, fun _ => ?_, a5, a6, fun _ => by rw [f1, e42, e43]; exact nn'⟩, Or.inr (by rw [f1, l0, e42, e43]; exact ⟨c1, c2, by omega, by omega, c5, nn'⟩)⟩, by omega, by unfold cpc; rw [f1]; omega⟩
        · rw [L_add, grd_t a1, grd_t hv', a2, grd_t (by omega), if_neg cE, grd_t c1, grd_t (by omega), if_pos cs, hσ']
        · rw [f1, l0]
          refine ⟨c1, by omega, by omega, c2, At.snoc ?_ ?_⟩
          · by_cases le : l = []
            · subst le; trivial
            · obtain ⟨_, _, _, _, d5⟩ := a4 le
              exact d5.mono (fun i e i0 i1 he hk => by rw [ee _ _ (by omega)]; exact hR _ _ fls _ _ he hk)
          · have q : el σ' (fl σ 1 x) l.length = v := by rw [hσ', el_sf, el_ses]
            rw [Int.zero_add, q]; exact hv _ _ fls
      · -- a longer array
        have lc : ln π (fl σ 1 x) = l.length := by omega
        have lpos : (10 : Int) ≤ l.length := by omega
        have lne : l ≠ [] := by rintro rfl; simp at lpos
        obtain ⟨d1, d2, d3, d4, d5⟩ := a4 lne
        obtain ⟨cp, hcp⟩ : ∃ cp, cp = L_cap (l.length : Int) := ⟨_, rfl⟩
        have cpb : (l.length : Int) < cp ∧ cp ≤ 2 * l.length ∧ l.length ≤ 3 * (cp - l.length) := by rw [hcp]; unfold L_cap; omega
        obtain ⟨σ', hσ'⟩ : ∃ σ', σ' = sf (se (sf (cpe (zA (sf σ 0 x (fl σ 0 x + 1)) (nn π) (-1)) (nn π) (fl σ 1 x) l.length) 1 x (nn π)) (nn π) l.length v) 2 x (l.length + 1) := ⟨_, rfl⟩
        have cpf : ∀ (σ' : St) (a b n : Int) (f : Nat) (i : Int), fl (cpe σ' a b n) f i = fl σ' f i := fun _ _ _ _ _ _ => rfl
        have cpl : ∀ (σ' : St) (a b n x j : Int), el (cpe σ' a b n) x j = if x = a ∧ 0 ≤ j ∧ j < n then el σ' b j else el σ' x j := fun _ _ _ _ _ _ => rfl
        have f1 : fl σ' 1 x = nn π := by rw [hσ', fl_sfn _ _ _ _ (by decide), fl_se, fl_sfs]
        have f2 : fl σ' 2 x = l.length + 1 := by rw [hσ', fl_sfs]
        have ff : ∀ (f : Nat) i, ¬ (i = x ∧ f ≤ 2) → fl σ' f i = fl σ f i := fun f i hx => by rw [hσ', fl_sf, if_neg (by omega), fl_se, fl_sf, if_neg (by omega), cpf, fl_zA, fl_sf, if_neg (by omega)]
        have ee : ∀ a j : Int, a < nn π → el σ' a j = el σ a j := fun a j ha => by rw [hσ', el_sf, el_sen _ _ _ _ (by omega), el_sf, cpl, if_neg (by omega), el_zA, if_neg (by omega), el_sf]
        have eo : ∀ j : Int, 0 ≤ j → j < l.length → el σ' (nn π) j = el σ (fl σ 1 x) j := fun j j0 j1 => by rw [hσ', el_sf, el_sej _ _ _ (by omega), el_sf, cpl, if_pos ⟨rfl, j0, j1⟩, el_zA, if_neg (by omega), el_sf]
        have en : el σ' (nn π) l.length = v := by rw [hσ', el_sf, el_ses]
        have fls : FLs x π σ (nA π 7 cp) σ' := ⟨ext_nA _ _ _, fun f i _ hx => ff f i hx, fun a j ha _ => ee a j ha, Or.inr (by omega)⟩
        have al : allO π σ (fl σ 1 x) l.length := fun j hj => by
          obtain ⟨e, e1, e2, -⟩ := At.both d5 d5 (j : Int) (by omega) (by omega)
          exact Or.inr (hO _ _ e1 e2)
        refine ⟨nA π 7 cp, σ', ?_, fls, ⟨⟨a1.ext fls.1, by rw [f2, l0], by omega, fun _ => ?_, a5, a6, fun _ => ?_⟩, Or.inr ?_⟩, by rw [nn_nA]; omega, ?_⟩
        · rw [L_add, grd_t a1, grd_t hv', a2, grd_t (by omega), if_neg cE, grd_t c1, grd_t (by omega), if_neg cs, grd_t ⟨by omega, by omega, al⟩, ← hcp, hσ']
        · rw [f1, l0]
          refine ⟨ob_nA π 7 cp, by rw [ln_nA]; omega, by rw [ln_nA]; omega, by omega, At.snoc (d5.mono (fun i e i0 i1 he hk => by rw [eo i (by omega) (by omega)]; exact hR _ _ fls _ _ he hk)) ?_⟩
          rw [Int.zero_add, en]; exact hv _ _ fls
        · rw [f1, ff 1 42 (by omega), ff 1 43 (by omega)]; omega
        · rw [f1, l0, ff 1 42 (by omega), ff 1 43 (by omega)]
          exact ⟨ob_nA π 7 cp, by omega, by rw [ln_nA]; omega, by rw [ln_nA]; omega, by rw [ln_nA]; omega, by omega, by omega⟩
        · unfold cpc
          rw [if_neg cE, f1, if_neg (by omega), ln_nA, lc]
          show ((sw π + cp.toNat : Nat) : Int) + 4 * (l.length : Int) ≤ _
          omega
