/-! rows of expressions: the loop, both -/
section RJ
variable {N : Nat} {b : Bse} {Xo : Int → Prop} {dl : List (Int × Int)} {lp : Nat → Sh → St → Int → Int → Option (Sh × St × Int)} {sub : Sh → St → Option (Sh × St × Int)}
/-- a part was read and given, and is not yet appended -/
def RWH (N : Nat) (b : Bse) (dl : List (Int × Int)) (Xo : Int → Prop) (Kf cs vs op d r s place : Int) (L0 : List Stq) (Kn0 : List Int) (π0 : Sh) (σ0 τ0 : St) (π : Sh) (σ τ : St) (l : List Ech) (x : Ech) (kn : List Int) (lw : Int) (T : Nat) : Prop := XEs b (XR Xo σ s) π σ τ (L0 ++ egs (l ++ [x])) (Kn0 ++ kn) ∧ RQr (Kf + 4) π σ (nn π0) s place (eopz (l ++ [x])) lw ∧ EFt (bX b) (bY b) π0 σ0 π σ ∧ RDr (fl τ0 16 0) d τ0 τ ∧ (fl τ 41 0 = d + 1 ∧ el τ 74 d = Kf ∧ el τ 72 d = 1 ∧ el τ 73 d = r) ∧ fl τ 46 0 = eC x ∧ fl τ 13 0 = op ∧ ECs N b τ (Kn0 ++ kn) L0.length (fl τ0 16 0) (eL x) l ∧ ECn τ (fl τ0 16 0) (eL x) r l ∧ EC1 N b τ (Kn0 ++ kn) (L0.length + (egs l).length) x ∧ eH x = fl τ 16 0 ∧ (fl τ0 16 0 ≤ r ∧ r < eL x) ∧ (∀ y, y ∈ l ∨ y = x → ¬ (eL y ≤ r ∧ r < eH y)) ∧ (∀ y ∈ l ++ [x], eO y ≠ none) ∧ (el τ 94 r = Kf ∧ el τ 93 r = place ∧ el τ 92 r = l.length) ∧ (∀ y ∈ egs (l ++ [x]), y.1 = 99 → Uoe dl b y) ∧ l ≠ [] ∧ EBd ((lf τ0 - lf τ + 28 * (20 - op) + 2 * cs) / 2 + 2) ((lf τ0 - lf τ + 28 * (20 - op) + 2 * cs + 2) / 2) (l ++ [x]) ∧ (ekk (l ++ [x]) : Int) + 10 * (l.length + 1) + 12 * lf τ ≤ 12 * lf τ0 + 13 ∧ fl τ 16 0 + 3 * lf τ ≤ fl τ0 16 0 + 3 * lf τ0 ∧ ((egs (l ++ [x])).length : Int) + 2 * lf τ + 2 * l.length ≤ 2 * lf τ0 ∧ (kn.length : Int) + lf τ ≤ lf τ0 ∧ (T : Int) + 13 + 20 * lf τ ≤ 20 * lf τ0 + 2 * vs + 1 ∧ (nn π : Int) + 8 * (l.length + 1) ≤ nn π0 + 12 * (lf τ0 - lf τ) + 14 ∧ (sw π : Int) + 4 * cpc π0 σ0 (bX b) + 4 * cpc π0 σ0 (bY b) + 84 * (l.length + 1) ≤ sw π0 + 4 * cpc π σ (bX b) + 4 * cpc π σ (bY b) + 150 * (lf τ0 - lf τ) + 2 * ln π (fl σ 210 s) + 6 * lw + 100 ∧ 2 * ((l.length : Int) + 1) + lf τ ≤ lf τ0 + 1
theorem RQr.ns {K n0 s place lw : Int} {π : Sh} {σ : St} {ops : List Kid} (h : RQr K π σ n0 s place ops lw) (hc : CTX b dl) (hn : nn b.1 ≤ n0) : (s ≠ bX b ∧ s ≠ bY b ∧ s ≠ bD b) ∧ 56 ≤ s ∧ n0 ≤ s := by
  obtain ⟨q1, q2, -⟩ := h.s
  have := q1.2.1
  have c3 := hc.2.2.1
  have c2 := hc.2.1
  exact ⟨⟨by omega, by omega, by omega⟩, by omega, by omega⟩
/-- a part is given to the row -/
theorem XEs.gv {K n0 s place lw o : Int} {π : Sh} {σ τ : St} {L : List Stq} {Kn : List Int} {ops : List Kid} (hc : CTX b dl) (h : XEs b (XR Xo σ s) π σ τ L Kn) (hr : RQr K π σ n0 s place ops lw) (hn : nn b.1 ≤ n0 ∧ n0 ≤ nn π) (hl : ops.length ≤ 3000) : ∃ π' σ' lw', GVr N K π σ s o π' σ' ∧ ob π s 10 ∧ FRn n0 π σ π' σ' ∧ RQr K π' σ' n0 s place (ops ++ [(o, 1, 1)]) lw' ∧ XEs b (XR Xo σ' s) π' σ' τ L Kn ∧ nn π' ≤ nn π + 4 ∧ ((sw π' : Int) + 2 * ln π (fl σ 210 s) + 6 * lw ≤ sw π + 2 * ln π' (fl σ' 210 s) + 6 * lw') ∧ (∀ (f : Nat) (i : Int), i ≠ s → fl σ' f i = fl σ f i) := by
  obtain ⟨π', σ', lw', g1, g2, g3, g4, g5, g6, g7, g8⟩ := hr.give (N := N) (o := o) h.2.2.2.2.2.1 hn.2 h.1.1 hl
  obtain ⟨⟨n1, n2, n3⟩, n4, n5⟩ := hr.ns hc hn.1
  have h56 : 56 ≤ n0 := hr.s.2.1
  refine ⟨π', σ', lw', g1, g2, g3, g4, h.gen (h.2.2.2.2.2.2.1.own (g3.le hn.1) ⟨g8 1 _ (fun w => n1 w.symm), g8 1 _ (fun w => n2 w.symm)⟩) g3.1 (fun f => g8 f 1 (by omega)) (g8 144 44 (by omega)) (fun j => g3.2.2 2 j (by omega)) g5 (fun x hx => ?_), g6, g7, g8⟩
  obtain ⟨w1, w2, w3, w4⟩ := (g4.s).1
  rcases hx with q | q | ⟨q1, q2⟩
  · exact h.2.2.2.2.2.2.2.2.2 x (Or.inl q)
  · omega
  · rcases g4 with ⟨e, z⟩ | ⟨e, e2, z⟩
    · obtain ⟨-, z2, -⟩ := z
      rcases z2 with z2 | z2
      · exact absurd z2.1 (by simp)
      · obtain ⟨-, ⟨-, t1, -⟩, ⟨-, t2, -⟩, ⟨-, t3, -⟩, -⟩ := z2
        have t0 := w4.2.1
        omega
    · have t0 := w4.2.1
      have z2 := z.2.1
      omega
set_option maxHeartbeats 4000000 in
/-- the next part is read and given -/
theorem row_ok {Kf cs vs op d r s place lw : Int} {L0 : List Stq} {Kn0 kn : List Int} {π0 π π2 : Sh} {σ0 τ0 σ τ σ2 τ2 : St} {l : List Ech} {T t : Nat} {o : Int} (hc : CTX b dl) (h0 : XEs b Xo π0 σ0 τ0 L0 Kn0) (hB0 : PRE τ0 L0 Kn0) (hop : fl τ0 13 0 = op) (hv : 0 ≤ vs ∧ vs ≤ 3) (hcs : 0 ≤ cs) (hd : 0 ≤ d) (h : RWA N b dl Xo Kf cs op d r s place L0 Kn0 π0 σ0 τ0 π σ τ l kn lw T) (e : EFt (bX b) (bY b) π σ π2 σ2) (rd : RDr (fl τ 16 0) (d + 1) τ τ2) (hf : EXk N b dl (XR Xo σ s) (L0 ++ egs l) (Kn0 ++ kn) (d + 1) cs vs π σ τ π2 σ2 τ2 o t) : ∃ π3 σ3 x kn3 lw3, GVr N (Kf + 4) π2 σ2 s o π3 σ3 ∧ ob π2 s 10 ∧ RWH N b dl Xo Kf cs vs op d r s place L0 Kn0 π0 σ0 τ0 π3 σ3 τ2 l x kn3 lw3 (T + t) := by
  obtain ⟨a1, a2, a3, a4, a5, a6, a7, a8, a9, a10, a11, a12, a13, a14, a15, b1, b2, b3, b4, b5, b6, b7, b8, b9⟩ := h
  obtain ⟨seg, kn2, n, w, z, k, g1, ⟨g2, g3, g4⟩, g5, g6, g7, g8, ⟨⟨m1, m2⟩, ⟨m3, m4⟩, m5, m6, m7, m8⟩, ⟨g9, g10⟩, g11⟩ := hf
  obtain ⟨p1, p2⟩ := a2.ef hc a1 e
  have xr : XR Xo σ2 s = XR Xo σ s := XR.eq (fun f _ _ => p2 f)
  have l0 := h0.2.1.lf
  have l1 := a1.2.1.lf
  have l2 := g1.2.1.lf
  have n01 := a3.1.1
  have n12 := e.1.1
  have nb := h0.2.2.2.2.2.2.1.1.1
  rw [a7] at m2 m4
  have m1' : 1 ≤ l.length := by cases l with | nil => exact absurd rfl a15 | cons y ys => simp
  unfold PRE at hB0
  rw [← xr] at g1
  have opb := h0.2.2.2.1
  obtain ⟨π3, σ3, lw3, c1, c2, c3, c4, c5, c6, c7, c8⟩ := XEs.gv (N := N) (o := o) hc g1 p1 ⟨by omega, by omega⟩ (by rw [eopz_len]; omega)
  obtain ⟨⟨n1, n2, n3⟩, n4, n5⟩ := p1.ns hc (by omega)
  have v16 := h0.2.2.2.2.2.2.2.2.1
  have bv : 0 ≤ bV b := by obtain ⟨-, -, -, -, -, -, -, -, -, q⟩ := hc; exact q
  obtain ⟨x, hx⟩ : ∃ x : Ech, x = (n, some o, [], seg, (fl τ 16 0, fl τ2 16 0), (w, z), k) := ⟨_, rfl⟩
  have xC : eC x = n := by rw [hx]; rfl
  have xO : eO x = some o := by rw [hx]; rfl
  have xA : eA x = [] := by rw [hx]; rfl
  have xS : eS x = seg := by rw [hx]; rfl
  have xL : eL x = fl τ 16 0 := by rw [hx]; rfl
  have xH : eH x = fl τ2 16 0 := by rw [hx]; rfl
  have xW : eW x = w := by rw [hx]; rfl
  have xZ : eZ x = z := by rw [hx]; rfl
  have xK : eK x = k := by rw [hx]; rfl
  have eo : eopz (l ++ [x]) = eopz l ++ [(o, 1, 1)] := by
    rw [eopz_app]
    have : eop x = o := by unfold eop; rw [xO]
    show eopz l ++ [(eop x, 1, 1)] = _
    rw [this]
  have eg : egs (l ++ [x]) = egs l ++ seg := by
    rw [egs_app]
    show egs l ++ (eS x ++ []) = _
    rw [xS, List.append_nil]
  have ek : ekk (l ++ [x]) = ekk l + k + 2 := by rw [ekk_app, xK]
  have tb : ∀ a i : Int, 84 ≤ a → a ≤ 94 → i < fl τ 16 0 → el τ2 a i = el τ a i := fun a i x1 x2 x3 => rd.2.2.1 a i x1 x2 x3
  have fr : ∀ a : Int, 71 ≤ a → a ≤ 74 → el τ2 a d = el τ a d := fun a x1 x2 => rd.2.2.2 a d x1 x2 (by omega)
  have mem := a8.le.2
  have pre : (Kn0 ++ kn) <+: (Kn0 ++ kn) ++ kn2 := List.prefix_append _ _
  have aa : (Kn0 ++ kn) ++ kn2 = Kn0 ++ (kn ++ kn2) := List.append_assoc _ _ _
  have la : (L0 ++ egs l) ++ seg = L0 ++ egs (l ++ [x]) := by rw [eg, List.append_assoc]
  have lj : ((L0 ++ egs l).length : Int) = L0.length + (egs l).length := by rw [List.length_append]; omega
  have lx2 := g1.lt hc
  have k31 : fl σ3 1 (bX b) = fl σ2 1 (bX b) ∧ fl σ3 1 (bY b) = fl σ2 1 (bY b) := ⟨c8 1 _ (fun w => n1 w.symm), c8 1 _ (fun w => n2 w.symm)⟩
  have cx3 : cpc π3 σ3 (bX b) = cpc π2 σ2 (bX b) := cpc_eq k31.1 c3.1 lx2.2.1.1
  have cy3 : cpc π3 σ3 (bY b) = cpc π2 σ2 (bY b) := cpc_eq k31.2 c3.1 lx2.2.1.2
  have w210 : ln π2 (fl σ2 210 s) = ln π (fl σ 210 s) := by
    rw [p2 210]
    have := a2.s.1.2.2.2.1.2.1
    exact (e.1.2.2 _ this).2
  refine ⟨π3, σ3, x, kn ++ kn2, lw3, c1, c2, by rw [← la, ← aa]; exact c5, by rw [eo]; exact c4, (a3.tr e).own c3 k31, a4.tr rd (by omega) (by omega), ⟨g2, by rw [fr 74 (by omega) (by omega)]; exact a5.2.1, by rw [fr 72 (by omega) (by omega)]; exact a5.2.2.1, by rw [fr 73 (by omega) (by omega)]; exact a5.2.2.2⟩, by rw [xC]; exact g3, by rw [g4]; exact a7, ?_, ?_, ?_, xH, ⟨a10.1, by rw [xL]; exact a10.2⟩, ?_, ?_, ?_, ?_, a15, ?_, ?_, ?_, ?_, ?_, ?_, ?_, ?_, ?_⟩
  · rw [xL, ← aa]
    exact a8.cg pre (fun y hy a i x1 x2 x3 x4 _ => tb a i (by omega) x2 (by have := mem y hy; omega))
  · rw [xL]
    exact ECn.mv a8 a9 ⟨tb 87 r (by omega) (by omega) a10.2, tb 86 r (by omega) (by omega) a10.2⟩ (Int.le_refl _) (fun y hy => by
      have := mem y hy
      exact ⟨tb 94 _ (by omega) (by omega) (by omega), tb 85 _ (by omega) (by omega) (by omega)⟩)
  · refine ⟨by rw [xL, xH, xC]; exact ⟨⟨by omega, by omega⟩, g5⟩, by rw [xL, xH]; exact ⟨by omega, by omega⟩, by rw [xC]; exact ⟨g6.1.1, g6.1.2, g6.2.2⟩, fun q hq => by rw [xA] at hq; exact absurd hq (by simp), Or.inl ⟨o, xO, xA, by rw [xC]; exact g6.2.1, ?_⟩⟩
    rw [xL, xH, xC, xS, xW, xZ, xK, ← aa, ← lj]
    exact g7
  · intro y hy
    rcases hy with hy | hy
    · exact a11 y hy
    · rw [hy, xL]; omega
  · intro y hy
    rcases List.mem_append.1 hy with q | q
    · exact a12 y q
    · have : y = x := by simpa using q
      rw [this, xO]; simp
  · rw [tb 94 r (by omega) (by omega) a10.2, tb 93 r (by omega) (by omega) a10.2, tb 92 r (by omega) (by omega) a10.2]
    exact a13
  · intro y hy
    rw [eg] at hy
    rcases List.mem_append.1 hy with q | q
    · exact a14 y q
    · exact g8 y q
  · exact EBd.app (by rw [xW]; omega) (b1.mono (by omega) (by omega)) (by rw [xZ]; omega) (by omega)
  · rw [ek]; push_cast; omega
  · omega
  · rw [eg, List.length_append]; push_cast; omega
  · rw [List.length_append]; push_cast; omega
  · push_cast; omega
  · have := g11.1
    omega
  · have q := g11.2
    rw [w210] at c7
    omega
  · omega
end RJ
