/-! a step is built -/
def FRn (n0 : Int) (π : Sh) (σ : St) (π' : Sh) (σ' : St) : Prop := ext π π' ∧ (∀ (f : Nat) (i : Int), i < n0 → fl σ' f i = fl σ f i) ∧ ∀ a j : Int, a < n0 → el σ' a j = el σ a j
theorem FRn.rf (n0 : Int) (π : Sh) (σ : St) : FRn n0 π σ π σ := ⟨ext.rf _, fun _ _ _ => rfl, fun _ _ _ => rfl⟩
theorem FRn.tr {n0 n1 : Int} {π π1 π2 : Sh} {σ σ1 σ2 : St} (h : FRn n0 π σ π1 σ1) (k : FRn n1 π1 σ1 π2 σ2) (hn : n0 ≤ n1) : FRn n0 π σ π2 σ2 := ⟨h.1.tr k.1, fun f i a => (k.2.1 f i (by omega)).trans (h.2.1 f i a), fun a j x => (k.2.2 a j (by omega)).trans (h.2.2 a j x)⟩
theorem FRn.sf {n0 : Int} {π π1 : Sh} {σ σ1 : St} (h : FRn n0 π σ π1 σ1) (f : Nat) {s : Int} (v : Int) (hs : n0 ≤ s) : FRn n0 π σ π1 (sf σ1 f s v) := h.tr ⟨ext.rf _, fun g i hi => by rw [fl_sf, if_neg (by omega)], fun _ _ _ => rfl⟩ (Int.le_refl _)
theorem FRn.se {n0 : Int} {π π1 : Sh} {σ σ1 : St} (h : FRn n0 π σ π1 σ1) {a : Int} (i v : Int) (ha : n0 ≤ a) : FRn n0 π σ π1 (se σ1 a i v) := h.tr ⟨ext.rf _, fun _ _ _ => rfl, fun b j hb => by rw [el_se, if_neg (by omega)]⟩ (Int.le_refl _)
theorem FRn.zA {n0 : Int} {π π1 : Sh} {σ σ1 : St} (h : FRn n0 π σ π1 σ1) (t : Nat) (m v : Int) (hn : n0 ≤ nn π1) : FRn n0 π σ (nA π1 t m) (zA σ1 (nn π1) v) := h.tr ⟨ext_nA _ _ _, fun _ _ _ => rfl, fun b j hb => by show (if b = nn π1 then v else el σ1 b j) = _; rw [if_neg (by omega)]⟩ (Int.le_refl _)
/-- fields of a step -/
def FSp (σ : St) (s kd place a b c d cnt wd us : Int) : Prop := fl σ 200 s = kd ∧ fl σ 201 s = place ∧ fl σ 202 s = a ∧ fl σ 203 s = b ∧ fl σ 204 s = c ∧ fl σ 205 s = d ∧ fl σ 206 s = cnt ∧ fl σ 207 s = wd ∧ fl σ 208 s = us
/-- its operands -/
def OPs (π : Sh) (σ : St) (n0 s : Int) (ops : List Kid) : Prop := ob π s 10 ∧ n0 ≤ s ∧ fl σ 209 s = ops.length ∧ (ob π (fl σ 210 s) 22 ∧ n0 ≤ fl σ 210 s ∧ ops.length ≤ ln π (fl σ 210 s) ∧ ln π (fl σ 210 s) ≤ 2 * ops.length + 2 ∧ At (fun i (k : Kid) => el σ (fl σ 210 s) i = k.1) 0 ops)
theorem fl_zO (σ : St) (i : Int) (d : Nat → Int) (f : Nat) (j : Int) : fl (zO σ i d) f j = if j = i then d f else fl σ f j := rfl
theorem el_zA (σ : St) (i v a j : Int) : el (zA σ i v) a j = if a = i then v else el σ a j := rfl
theorem fl_zA (σ : St) (i v : Int) (f : Nat) (j : Int) : fl (zA σ i v) f j = fl σ f j := rfl
section ST1
variable {N : Nat}
theorem ob_nO (π : Sh) (c w : Nat) : ob (nO π c w) (nn π) c := ⟨by omega, by rw [nn_nO]; omega, tg_nO π c w⟩
theorem ob_nA (π : Sh) (t : Nat) (m : Int) : ob (nA π t m) (nn π) (20 + t) := ⟨by omega, by rw [nn_nA]; omega, tg_nA π t m⟩
/-- a new step -/
theorem c_spInit {π : Sh} {σ : St} {kd place : Int} : ∃ π' σ', Sp_init N (nO π 10 14) (zO σ (nn π) dfl) (nn π) kd place = some (π', σ') ∧ FRn (nn π) π σ π' σ' ∧ nn π' = nn π + 2 ∧ sw π' = sw π + 16 ∧ FSp σ' (nn π) kd place 0 0 0 0 0 0 (-1) ∧ OPs π' σ' (nn π) (nn π) [] ∧ (fl σ' 211 (nn π) = -1 ∧ fl σ' 212 (nn π) = -1 ∧ fl σ' 213 (nn π) = -1) ∧ ln π' (fl σ' 210 (nn π)) = 2 := by
  obtain ⟨s, hs⟩ : ∃ s : Int, s = nn π := ⟨_, rfl⟩
  have o1 : ob (nO π 10 14) s 10 := by rw [hs]; exact ob_nO π 10 14
  have o2 : ob (nA (nO π 10 14) 2 2) s 10 := o1.ext (ext_nA _ _ _)
  have n1 : nn (nO π 10 14) = nn π + 1 := nn_nO π 10 14
  rw [← hs]
  refine ⟨_, _, by rw [Sp_init, grd_t o1, bnd, Sp_init_48, grd_t o2, grd_t o2], ?_, by rw [nn_nA, n1], rfl, ?_, ?_, ?_, ?_⟩
  · have f0 : FRn s π σ (nO π 10 14) (zO σ s dfl) := ⟨ext_nO _ _ _, fun f i hi => by rw [fl_zO, if_neg (by omega)], fun _ _ _ => rfl⟩
    have f1 := ((((((((f0.sf 202 0 (Int.le_refl s)).sf 203 0 (Int.le_refl s)).sf 204 0 (Int.le_refl s)).sf 205 0 (Int.le_refl s)).sf 206 0 (Int.le_refl s)).sf 207 0 (Int.le_refl s)).sf 208 (-1) (Int.le_refl s)).sf 209 0 (Int.le_refl s)).zA 2 2 0 (by omega)
    exact (((((f1.sf 210 _ (Int.le_refl s)).sf 211 _ (Int.le_refl s)).sf 212 _ (Int.le_refl s)).sf 213 _ (Int.le_refl s)).sf 200 _ (Int.le_refl s)).sf 201 _ (Int.le_refl s)
  · unfold FSp
    simp [fl_sf, fl_zA]
  · refine ⟨o2, Int.le_refl _, by simp [fl_sf, fl_zA], ?_⟩
    have e : ∀ σ3 : St, fl (sf (sf (sf (sf (sf (sf σ3 210 s (nn (nO π 10 14))) 211 s (-1)) 212 s (-1)) 213 s (-1)) 200 s kd) 201 s place) 210 s = nn (nO π 10 14) := fun σ3 => by simp [fl_sf]
    rw [e]
    exact ⟨ob_nA _ 2 2, by omega, by rw [ln_nA]; simp, by rw [ln_nA]; simp, trivial⟩
  · simp [fl_sf]
  · have e : ∀ σ3 : St, fl (sf (sf (sf (sf (sf (sf σ3 210 s (nn (nO π 10 14))) 211 s (-1)) 212 s (-1)) 213 s (-1)) 200 s kd) 201 s place) 210 s = nn (nO π 10 14) := fun σ3 => by simp [fl_sf]
    rw [e, ln_nA]
theorem c_spInitB {π : Sh} {σ : St} {kd place a b : Int} : ∃ π' σ', Sp_initB N (nO π 10 14) (zO σ (nn π) dfl) (nn π) kd place a b = some (π', σ') ∧ FRn (nn π) π σ π' σ' ∧ nn π' = nn π + 2 ∧ sw π' = sw π + 16 ∧ FSp σ' (nn π) kd place a b 0 0 0 0 (-1) ∧ OPs π' σ' (nn π) (nn π) [] ∧ (fl σ' 211 (nn π) = -1 ∧ fl σ' 212 (nn π) = -1 ∧ fl σ' 213 (nn π) = -1) ∧ ln π' (fl σ' 210 (nn π)) = 2 := by
  obtain ⟨s, hs⟩ : ∃ s : Int, s = nn π := ⟨_, rfl⟩
  have o1 : ob (nO π 10 14) s 10 := by rw [hs]; exact ob_nO π 10 14
  have o2 : ob (nA (nO π 10 14) 2 2) s 10 := o1.ext (ext_nA _ _ _)
  have n1 : nn (nO π 10 14) = nn π + 1 := nn_nO π 10 14
  rw [← hs]
  refine ⟨_, _, by rw [Sp_initB, grd_t o1, bnd, Sp_initB_48, grd_t o2, grd_t o2], ?_, by rw [nn_nA, n1], rfl, ?_, ?_, ?_, ?_⟩
  · have f0 : FRn s π σ (nO π 10 14) (zO σ s dfl) := ⟨ext_nO _ _ _, fun f i hi => by rw [fl_zO, if_neg (by omega)], fun _ _ _ => rfl⟩
    have f1 := ((((((((f0.sf 202 0 (Int.le_refl s)).sf 203 0 (Int.le_refl s)).sf 204 0 (Int.le_refl s)).sf 205 0 (Int.le_refl s)).sf 206 0 (Int.le_refl s)).sf 207 0 (Int.le_refl s)).sf 208 (-1) (Int.le_refl s)).sf 209 0 (Int.le_refl s)).zA 2 2 0 (by omega)
    exact (((((((f1.sf 210 _ (Int.le_refl s)).sf 211 _ (Int.le_refl s)).sf 212 _ (Int.le_refl s)).sf 213 _ (Int.le_refl s)).sf 200 _ (Int.le_refl s)).sf 201 _ (Int.le_refl s)).sf 202 _ (Int.le_refl s)).sf 203 _ (Int.le_refl s)
  · unfold FSp
    simp [fl_sf, fl_zA]
  · refine ⟨o2, Int.le_refl _, by simp [fl_sf, fl_zA], ?_⟩
    have e : ∀ σ3 : St, fl (sf (sf (sf (sf (sf (sf (sf (sf σ3 210 s (nn (nO π 10 14))) 211 s (-1)) 212 s (-1)) 213 s (-1)) 200 s kd) 201 s place) 202 s a) 203 s b) 210 s = nn (nO π 10 14) := fun σ3 => by simp [fl_sf]
    rw [e]
    exact ⟨ob_nA _ 2 2, by omega, by rw [ln_nA]; simp, by rw [ln_nA]; simp, trivial⟩
  · simp [fl_sf]
  · have e : ∀ σ3 : St, fl (sf (sf (sf (sf (sf (sf (sf (sf σ3 210 s (nn (nO π 10 14))) 211 s (-1)) 212 s (-1)) 213 s (-1)) 200 s kd) 201 s place) 202 s a) 203 s b) 210 s = nn (nO π 10 14) := fun σ3 => by simp [fl_sf]
    rw [e, ln_nA]
/-- an operand is given; w tells the words that it may cost -/
theorem c_give {π : Sh} {σ : St} {n0 s o : Int} {ops : List Kid} (h : OPs π σ n0 s ops) (hn : n0 ≤ nn π) (hl : ops.length ≤ 3000) (w : Int × Int) : ∃ π' σ', Sp_give N π σ s o = some (π', σ', s) ∧ FRn n0 π σ π' σ' ∧ nn π' ≤ nn π + 1 ∧ ((sw π' : Int) + 2 * ln π (fl σ 210 s) ≤ sw π + 2 * ln π' (fl σ' 210 s) ∧ ln π' (fl σ' 210 s) = (if (ops.length : Int) < ln π (fl σ 210 s) then ln π (fl σ 210 s) else 2 * (ops.length : Int) + 1)) ∧ OPs π' σ' n0 s (ops ++ [(o, w)]) ∧ (∀ f i, ¬ (i = s ∧ (f = 209 ∨ f = 210)) → fl σ' f i = fl σ f i) ∧ (∀ a j : Int, a < nn π → a ≠ fl σ 210 s → el σ' a j = el σ a j) ∧ (fl σ' 210 s = fl σ 210 s ∨ fl σ' 210 s = nn π) := by
  obtain ⟨h1, h2, h3, h4, h5, h6, h7, h8⟩ := id h
  have s0 := h1.2.1
  have l0 : ((ops ++ [(o, w)]).length : Int) = ops.length + 1 := by rw [List.length_append]; simp
  by_cases c : (ops.length : Int) < ln π (fl σ 210 s)
  · refine ⟨π, sf (se σ (fl σ 210 s) ops.length o) 209 s (ops.length + 1), ?_, ((FRn.rf n0 π σ).se _ _ h5).sf 209 _ h2, by omega, ?_, ?_, fun f i hx => ?_, fun a j _ ha => ?_, Or.inl (by rw [fl_sfn _ _ _ _ (by decide), fl_se])⟩
    · rw [Sp_give, grd_t h1, grd_t h4, grd_t (by omega), h3, grd_t (by exact ⟨by omega, by omega⟩), grd_t (by exact ⟨by omega, by omega⟩), if_pos c, Sp_give_31, grd_t h1, grd_t h4, h3, grd_t (by exact ⟨by omega, by omega, by omega⟩)]
    · rw [fl_sfn _ _ _ _ (by decide), fl_se, if_pos c]; omega
    · refine ⟨h1, h2, by rw [fl_sfs]; omega, ?_⟩
      rw [fl_sfn _ _ _ _ (by decide), fl_se]
      refine ⟨h4, h5, by omega, by omega, At.snoc (h8.mono (fun i k i0 i1 _ hk => ?_)) ?_⟩
      · rw [el_sf, el_sej _ _ _ (by omega)]; exact hk
      · rw [Int.zero_add, el_sf, el_ses]
    · rw [fl_sf, if_neg (by omega), fl_se]
    · rw [el_sf, el_sen _ _ _ _ ha]
  · have e : ln π (fl σ 210 s) = ops.length := by omega
    obtain ⟨π1, hπ1⟩ : ∃ π1, π1 = nA π 2 (2 * (ops.length : Int) + 1) := ⟨_, rfl⟩
    obtain ⟨σ1, hσ1⟩ : ∃ σ1, σ1 = cpe (zA σ (nn π) 0) (nn π) (fl σ 210 s) (min (ops.length : Int) (2 * (ops.length : Int) + 1)) := ⟨_, rfl⟩
    have f1 : ∀ f i, fl σ1 f i = fl σ f i := fun f i => by rw [hσ1]; rfl
    have e1 : ∀ a j : Int, a ≠ nn π → el σ1 a j = el σ a j := fun a j ha => by
      rw [hσ1]
      show (if a = nn π ∧ 0 ≤ j ∧ j < min (ops.length : Int) (2 * (ops.length : Int) + 1) then el (zA σ (nn π) 0) (fl σ 210 s) j else el (zA σ (nn π) 0) a j) = _
      rw [if_neg (fun h => ha h.1), el_zA, if_neg ha]
    have e2 : ∀ j : Int, 0 ≤ j → j < ops.length → el σ1 (nn π) j = el σ (fl σ 210 s) j := fun j j0 j1 => by
      rw [hσ1]
      show (if (nn π : Int) = nn π ∧ 0 ≤ j ∧ j < min (ops.length : Int) (2 * (ops.length : Int) + 1) then el (zA σ (nn π) 0) (fl σ 210 s) j else el (zA σ (nn π) 0) (nn π) j) = _
      rw [if_pos ⟨rfl, j0, by omega⟩, el_zA, if_neg (by have := h4.2.1; omega)]
    have o1 : ob π1 s 10 := by rw [hπ1]; exact h1.ext (ext_nA _ _ _)
    have oA : ob π1 (nn π) 22 := by rw [hπ1]; exact ob_nA π 2 _
    have lA : ln π1 (nn π) = 2 * (ops.length : Int) + 1 := by rw [hπ1]; exact ln_nA π 2 _
    have cp : A_copy π σ (fl σ 210 s) (2 * (ops.length : Int) + 1) = some (π1, σ1, (nn π : Int)) := by
      rw [A_copy, grd_t h4, grd_t (by omega), e, grd_t (by omega), grd_t (by omega), hπ1, hσ1]
    refine ⟨π1, sf (se (sf σ1 210 s (nn π)) (nn π) ops.length o) 209 s (ops.length + 1), ?_, ?_, by rw [hπ1, nn_nA]; omega, ?_, ?_, fun f i hx => ?_, fun a j ha hb => ?_, Or.inr (by rw [fl_sfn _ _ _ _ (by decide), fl_se, fl_sfs])⟩
    · rw [Sp_give, grd_t h1, grd_t h4, grd_t (by omega), h3, grd_t (by exact ⟨by omega, by omega⟩), grd_t (by exact ⟨by omega, by omega⟩), if_neg c, cp, Option.bind_some]
      simp only
      rw [Sp_give_28, grd_t o1, Sp_give_31, grd_t o1, fl_sfs, grd_t oA, fl_sfn _ _ _ _ (by decide), f1, h3, grd_t (by exact ⟨by omega, by omega, by omega⟩)]
    · have g : FRn n0 π σ π1 σ1 := ⟨by rw [hπ1]; exact ext_nA _ _ _, fun f i _ => f1 f i, fun a j ha => e1 a j (by omega)⟩
      exact ((g.sf 210 _ h2).se _ _ hn).sf 209 _ h2
    · have q : fl (sf (se (sf σ1 210 s (nn π)) (nn π) ops.length o) 209 s (ops.length + 1)) 210 s = nn π := by rw [fl_sfn _ _ _ _ (by decide), fl_se, fl_sfs]
      have sws : (sw π1 : Int) = sw π + (2 * (ops.length : Int) + 1) := by rw [hπ1]; show ((sw π + (2 * (ops.length : Int) + 1).toNat : Nat) : Int) = _; omega
      rw [q, lA, e, sws, if_neg (by omega)]; omega
    · have q : fl (sf (se (sf σ1 210 s (nn π)) (nn π) ops.length o) 209 s (ops.length + 1)) 210 s = nn π := by rw [fl_sfn _ _ _ _ (by decide), fl_se, fl_sfs]
      refine ⟨o1, h2, by rw [fl_sfs]; omega, ?_⟩
      rw [q]
      refine ⟨oA, hn, by omega, by omega, At.snoc (h8.mono (fun i k i0 i1 _ hk => ?_)) ?_⟩
      · rw [el_sf, el_sej _ _ _ (by omega), el_sf, e2 i (by omega) (by omega)]; exact hk
      · rw [Int.zero_add, el_sf, el_ses]
    · rw [fl_sf, if_neg (by omega), fl_se, fl_sf, if_neg (by omega), f1]
    · rw [el_sf, el_sen _ _ _ _ (by omega), el_sf, e1 a j (by omega)]
end ST1
