/-! names before what they are applied to: the last argument -/
section AL9
variable {N : Nat} {b : Bse} {Xo : Int → Prop} {dl : List (Int × Int)} {rA rF : Sh → St → Option (Sh × St × Int)}
/-- before the last argument -/
def WLT (N : Nat) (b : Bse) (dl : List (Int × Int)) (X : Int → Prop) (d n pc op e0 : Int) (L0 : List Stq) (Kn0 : List Int) (π0 : Sh) (σ0 τ0 : St) (π : Sh) (σ τ : St) (l : List Ech) (kn : List Int) (T : Nat) : Prop := XEs b X π σ τ (L0 ++ egs l) (Kn0 ++ kn) ∧ (pc = nn π0 ∧ pc + 2 ≤ nn π) ∧ EFt (bX b) (bY b) π0 σ0 π σ ∧ RDr n d τ0 τ ∧ (fl τ 41 0 = d + 2 ∧ el τ 74 (d + 1) = 6 ∧ el τ 72 (d + 1) = 0 ∧ el τ 73 (d + 1) = n) ∧ (el τ 74 d = 4 ∧ el τ 72 d = 1 ∧ el τ 73 d = n) ∧ fl τ 13 0 = op ∧ (n = fl τ0 16 0 ∧ n < fl τ 16 0) ∧ ECs N b τ (Kn0 ++ kn) L0.length (n + 1) (fl τ 16 0) l ∧ ECn τ (n + 1) (fl τ 16 0) n l ∧ (∀ y ∈ egs l, y.1 = 99 → Uoe dl b y) ∧ (l.length ≤ 3 ∧ e0 ≤ lf τ0 ∧ lf τ + 1 ≤ e0) ∧ EBd ((e0 - lf τ + 28 * (20 - op)) / 2 + 3) ((e0 - lf τ + 28 * (20 - op)) / 2 + 5) l ∧ fl τ 16 0 + 3 * lf τ + 2 ≤ fl τ0 16 0 + 3 * lf τ0 ∧ ((egs l).length : Int) + 2 * lf τ + 2 ≤ 2 * e0 ∧ (kn.length : Int) + lf τ + 1 ≤ e0 ∧ (T : Int) + 18 + 20 * lf τ ≤ 20 * lf τ0
/-- behind it -/
def WLD (N : Nat) (b : Bse) (dl : List (Int × Int)) (Xo : Int → Prop) (d n op e0 : Int) (L0 : List Stq) (Kn0 : List Int) (τ0 : St) (π : Sh) (σ τ : St) (l : List Ech) (T : Nat) (π' : Sh) (σ' τ' : St) (o : Int) (t : Nat) : Prop := ∃ x kn', eO x = some o ∧ eA x = [] ∧ XEs b Xo π' σ' τ' (L0 ++ egs (l ++ [x])) (Kn0 ++ kn') ∧ (fl τ' 41 0 = d ∧ fl τ' 46 0 = n ∧ fl τ' 13 0 = op) ∧ fl τ 16 0 ≤ fl τ' 16 0 ∧ (∀ a : Int, 88 ≤ a → a ≤ 94 → el τ' a n = el τ a n) ∧ (∀ a i : Int, 85 ≤ a → a ≤ 94 → n + 1 ≤ i → i < fl τ 16 0 → (a = 85 → ∀ y, l.getLast? = some y → i ≠ eC y) → el τ' a i = el τ a i) ∧ ECs N b τ' (Kn0 ++ kn') L0.length (n + 1) (fl τ' 16 0) (l ++ [x]) ∧ ECn τ' (n + 1) (fl τ' 16 0) n (l ++ [x]) ∧ (∀ y ∈ egs (l ++ [x]), y.1 = 99 → Uoe dl b y) ∧ EBd ((e0 - lf τ' + 28 * (20 - op)) / 2 + 3) ((e0 - lf τ' + 28 * (20 - op)) / 2 + 5) (l ++ [x]) ∧ ((eK x : Int) + 12 * lf τ' ≤ 12 * lf τ ∧ fl τ' 16 0 + 3 * lf τ' + 2 ≤ fl τ0 16 0 + 3 * lf τ0 ∧ ((egs (l ++ [x])).length : Int) + 2 * lf τ' + 2 ≤ 2 * e0 ∧ (kn'.length : Int) + lf τ' + 1 ≤ e0 ∧ (T : Int) + t + 28 + 20 * lf τ' ≤ 20 * lf τ0 ∧ lf τ' + 1 ≤ lf τ ∧ ((eS x).length : Int) + 2 * lf τ' ≤ 2 * lf τ) ∧ RmE (bX b) (bY b) π σ π' σ' (12 * (lf τ - lf τ')) (150 * (lf τ - lf τ'))
set_option maxHeartbeats 4000000 in
theorem wl_arg {X : Int → Prop} {d n pc op e0 : Int} {L0 : List Stq} {Kn0 kn : List Int} {π0 π : Sh} {σ0 τ0 σ τp τ : St} {l : List Ech} {T : Nat} (hN : 30000001 ≤ N) (hc : CTX b dl) (h0 : XEs b Xo π0 σ0 τ0 L0 Kn0) (hB0 : PRE τ0 L0 Kn0) (hd : 0 ≤ d ∧ d + 2 ≤ 10 * op + 11) (hop : fl τ0 13 0 = op) (h : WLT N b dl X d n pc op e0 L0 Kn0 π0 σ0 τ0 π σ τ l kn T) (hX : ∀ x, Xo x → X x) (ht : TRN N τp τ d n) (h71 : el τ 71 (d + 1) = nuw [4]) (hA : ARH N b dl 5 1 0 11 rA op) : ∃ π' σ' τ' o t, rA π σ = some (π', σ', o) ∧ RLp N t τp τ' ∧ EFt (bX b) (bY b) π σ π' σ' ∧ RDr n d τ0 τ' ∧ ((XQ b Xo π' σ' τ' (L0.length + 2 * lf τ0 + 4 * (20 - op)) (Kn0.length + lf τ0) ∧ RmE (bX b) (bY b) π σ π' σ' (12 * lf τ + 60 * (20 - op)) (150 * lf τ + 600 * (20 - op)) ∧ (T : Int) + t ≤ 20 * lf τ0 + 190) ∨ WLD N b dl Xo d n op e0 L0 Kn0 τ0 π σ τ l T π' σ' τ' o t) := by
  have opb := h0.2.2.2.1
  obtain ⟨a1, a3, a4, a5, a6, a7, a8, a9, a11, a12, a13, ⟨a15, a15', a15''⟩, b1, b3, b4, b5, b6⟩ := id h
  have d500 : d < 300 := by omega
  have turn := ht.1
  rw [rw33 ⟨by omega, by omega⟩ h71 (by omega) (fun x hx => absurd hx (by simp)) (by simp), if_neg (by omega), if_neg (by omega)] at turn
  obtain ⟨τ1, hτ1⟩ : ∃ τ1, τ1 = se (se τ 71 (d + 1) (nuw [])) 72 (d + 1) 1 := ⟨_, rfl⟩
  rw [← hτ1] at turn
  have f1 : ∀ (g : Nat) (i : Int), fl τ1 g i = fl τ g i := fun g i => by rw [hτ1, fl_se, fl_se]
  have bg : r_begin N τ1 5 (-1) 0 = some (nwF τ1 5 (-1) 0) := r_begin' (by rw [f1, a6.1]; exact ⟨by omega, by omega⟩)
  have turn' : rdK N 6 τp (d + 1) = some (nwF τ1 5 (-1) 0) := by rw [turn, if_neg (by omega), bg]
  have g41 : fl τ1 41 0 = d + 2 := by rw [f1]; exact a6.1
  obtain ⟨τb, hτb⟩ : ∃ τb, τb = nwF τ1 5 (-1) 0 := ⟨_, rfl⟩
  rw [← hτb] at turn'
  have nv := nwF_v τ1 5 (-1) 0
  rw [g41, ← hτb] at nv
  have fb : ∀ g : Nat, g ≠ 41 → fl τb g 0 = fl τ g 0 := fun g hg => by rw [hτb, nwF_fl _ _ _ _ _ _ hg, f1]
  have eb : ∀ a i : Int, ¬ (71 ≤ a ∧ a ≤ 74 ∧ (i = d + 1 ∨ i = d + 2)) → el τb a i = el τ a i := fun a i hq => by
    rw [hτb, nwF_el _ _ _ _ _ _ (by omega), hτ1, el_se, if_neg (by omega), el_se, if_neg (by omega)]
  have t10 : el τb 74 (d + 1) = 6 ∧ el τb 72 (d + 1) = 1 ∧ el τb 73 (d + 1) = n ∧ el τb 71 (d + 1) = nuw [] := by
    rw [hτb, nwF_el _ _ _ _ _ _ (by omega), nwF_el _ _ _ _ _ _ (by omega), nwF_el _ _ _ _ _ _ (by omega), nwF_el _ _ _ _ _ _ (by omega), hτ1]
    refine ⟨by rw [el_sen _ _ _ _ (by decide), el_sen _ _ _ _ (by decide)]; exact a6.2.1, by rw [el_ses], by rw [el_sen _ _ _ _ (by decide), el_sen _ _ _ _ (by decide)]; exact a6.2.2.2, by rw [el_sen _ _ _ _ (by decide), el_ses]⟩
  have rdb : RDr (n + 1) (d + 1) τ τb := by
    rw [hτb]
    refine nwF_rd ?_ _ _ _ (by omega)
    rw [hτ1]
    exact ((RDr.rf _ _ τ).sp 71 (d + 1) _ (by omega) (Int.le_refl _)).sp 72 (d + 1) 1 (by omega) (Int.le_refl _)
  have v16 := h0.2.2.2.2.2.2.2.2.1
  have t7 : lf τb = lf τ := by unfold lf; rw [fb 1 (by decide), fb 4 (by decide)]
  have t3 : fl τb 13 0 = op := by rw [fb 13 (by decide)]; exact a8
  have t8 : fl τb 16 0 = fl τ 16 0 := fb 16 (by decide)
  have t9 : ∀ a i : Int, 84 ≤ a → el τb a i = el τ a i := fun a i ha => eb a i (by omega)
  have t11 : el τb 74 d = 4 ∧ el τb 72 d = 1 ∧ el τb 73 d = n := ⟨by rw [eb 74 d (by omega)]; exact a7.1, by rw [eb 72 d (by omega)]; exact a7.2.1, by rw [eb 73 d (by omega)]; exact a7.2.2⟩
  have t12 : RDr n d τ0 τb := a5.tr rdb (by omega) (by omega)
  have t1 : RLp N 1 τp τb := RLp.one (by rw [ht.2.1]; omega) ⟨by omega, by omega⟩ ht.2.2.1 ⟨ht.2.2.2, by omega, by omega⟩ turn'
  have x2 : XEs b X π σ τb (L0 ++ egs l) (Kn0 ++ kn) := a1.rt hc rdb (by omega) (by omega) (by rw [t8]; exact a1.2.2.2.2.2.2.2.2.1) (fun g hg => fb g (by omega))
  have t4 : FRx τb (d + 2) 5 := ⟨by rw [hτb, nwF_41, g41], nv.1, nv.2.2.1⟩
  have l0 := h0.2.1.lf
  have l1 := a1.2.1.lf
  have t6 : PRE τb (L0 ++ egs l) (Kn0 ++ kn) := by
    unfold PRE at hB0 ⊢
    rw [t7, t8, List.length_append, List.length_append]
    push_cast
    exact ⟨by omega, by omega, by omega⟩
  obtain ⟨π', σ', τ2, o, t, q1, q2, q3, q4, q5⟩ := hA X π σ τb (L0 ++ egs l) (Kn0 ++ kn) (d + 2) x2 t3 t4 ⟨by omega, by omega⟩ nv.2.1 t6
  have bv : 0 ≤ bV b := by obtain ⟨-, -, -, -, -, -, -, -, -, q⟩ := hc; exact q
  have rl : RLp N (1 + t) τp τ2 := t1.tr q2
  have rd2 : RDr n d τ0 τ2 := t12.tr q4 (by omega) (by omega)
  rcases q5 with f | f
  · obtain ⟨f1, f2, f3⟩ := f
    rw [t3, t7, List.length_append, List.length_append] at f1
    rw [t3, t7] at f2
    rw [t7] at f3
    exact ⟨π', σ', τ2, o, 1 + t, q1, rl, q3, rd2, Or.inl ⟨(f1.sub (X' := Xo) hX).mono (by push_cast; omega) (by push_cast; omega), f2.mono (by omega) (by omega), by push_cast; omega⟩⟩
  · obtain ⟨seg, kn2, cn, w, z, k, g1', ⟨m2, m3, m4⟩, m5, m6, m7, m8, ⟨⟨y1, y2⟩, ⟨y3, y4⟩, y5, y6, y7, y8⟩, ⟨m9, m10⟩, m11⟩ := f
    rw [t7] at y2 y4 y5 y6 y7 y8 m9 m10 m11
    rw [t3] at y2 y4 m4
    rw [t8] at y8 m5 m7
    have l2 := g1'.2.1.lf
    unfold PRE at hB0
    obtain ⟨x, hx⟩ : ∃ x : Ech, x = (cn, some o, [], seg, (fl τ 16 0, fl τ2 16 0), (w, z), k) := ⟨_, rfl⟩
    have xC : eC x = cn := by rw [hx]; rfl
    have xO : eO x = some o := by rw [hx]; rfl
    have xA : eA x = [] := by rw [hx]; rfl
    have xS : eS x = seg := by rw [hx]; rfl
    have xL : eL x = fl τ 16 0 := by rw [hx]; rfl
    have xH : eH x = fl τ2 16 0 := by rw [hx]; rfl
    have xW : eW x = w := by rw [hx]; rfl
    have xZ : eZ x = z := by rw [hx]; rfl
    have xK : eK x = k := by rw [hx]; rfl
    have eg : egs (l ++ [x]) = egs l ++ seg := by
      rw [egs_app]
      show egs l ++ (eS x ++ []) = _
      rw [xS, List.append_nil]
    have tb : ∀ a i : Int, 84 ≤ a → a ≤ 94 → i < fl τ 16 0 → el τ2 a i = el τ a i := fun a i x1 x2 x3 => by rw [q4.2.2.1 a i x1 x2 (by omega), t9 a i x1]
    have mem := a11.le.2
    have pre : (Kn0 ++ kn) <+: (Kn0 ++ kn) ++ kn2 := List.prefix_append _ _
    have aa : (Kn0 ++ kn) ++ kn2 = Kn0 ++ (kn ++ kn2) := List.append_assoc _ _ _
    have la : (L0 ++ egs l) ++ seg = L0 ++ egs (l ++ [x]) := by rw [eg, List.append_assoc]
    have lj : ((L0 ++ egs l).length : Int) = L0.length + (egs l).length := by rw [List.length_append]; omega
    have hs2 : ECs N b τ2 (Kn0 ++ (kn ++ kn2)) L0.length (n + 1) (fl τ 16 0) l := by
      rw [← aa]
      exact a11.cg pre (fun y hy a i x1 x2 x3 x4 _ => tb a i (by omega) x2 (by have := mem y hy; omega))
    have hn2 : ECn τ2 (n + 1) (fl τ 16 0) n l := ECn.mv a11 a12 ⟨tb 87 n (by omega) (by omega) a9.2, tb 86 n (by omega) (by omega) a9.2⟩ (Int.le_refl _) (fun y hy => by
      have := mem y hy
      exact ⟨tb 94 _ (by omega) (by omega) (by omega), tb 85 _ (by omega) (by omega) (by omega)⟩)
    have ex1 : EC1 N b τ2 (Kn0 ++ (kn ++ kn2)) (L0.length + (egs l).length) x := by
      refine ⟨by rw [xL, xH, xC]; exact ⟨⟨by omega, by omega⟩, m5⟩, by rw [xL, xH]; exact ⟨by omega, by omega⟩, by rw [xC]; exact ⟨m6.1.1, m6.1.2, m6.2.2⟩, fun q hq => by rw [xA] at hq; exact absurd hq (by simp), Or.inl ⟨o, xO, xA, by rw [xC]; exact m6.2.1, ?_⟩⟩
      rw [xL, xH, xC, xS, xW, xZ, xK, ← aa, ← lj]
      exact m7
    have nr : ∀ y, y ∈ l ∨ y = x → ¬ (eL y ≤ n ∧ n < eH y) := fun y hy => by
      rcases hy with q | q
      · have := mem y q; omega
      · rw [q, xL]; have := a9.2; omega
    obtain ⟨u1, u2⟩ := ECn.app (hi' := fl τ2 16 0) hs2 hn2 ex1 xC nr (by rw [xL]; exact Int.le_refl _) (by rw [xH]; exact Int.le_refl _)
    obtain ⟨τi, hτi⟩ : ∃ τi, τi = se (apN τ2 n cn) 72 (d + 1) 0 := ⟨_, rfl⟩
    have h86 : el τ2 87 n = -1 ∨ (inb (el τ2 86 n) 32768 ∧ n + 1 ≤ el τ2 86 n) := by
      by_cases hne : l = []
      · left; have w := hn2.1; rw [hne] at w; exact w
      · have w := ECn.h hs2 hn2 ⟨by omega, by omega⟩ hne
        right; exact ⟨w.1, w.2.2.1⟩
    have h87 : i32 (el τ2 87 n) := by
      by_cases hne : l = []
      · have w := hn2.1; rw [hne] at w; have w' : el τ2 87 n = -1 := w; rw [w']; decide
      · exact (ECn.h hs2 hn2 ⟨by omega, by omega⟩ hne).2.1
    have apc : r_append N τ2 n cn = some (apN τ2 n cn) := r_append' ⟨by omega, by omega⟩ ⟨by omega, by omega⟩ (by rcases h86 with q | q; exact Or.inl q; exact Or.inr q.1) h87
    have fd : ∀ a : Int, 71 ≤ a → a ≤ 74 → ∀ i, i = d ∨ i = d + 1 → el τ2 a i = el τb a i := fun a z1 z2 i hi => q4.2.2.2 a i z1 z2 (by omega)
    have trn : TRN N τ2 τi d n := by
      refine ⟨?_, by rw [m2], g1'.2.2.1.2, by rw [fd 74 (by omega) (by omega) _ (Or.inr rfl)]; exact t10.1⟩
      show r_readWants N τ2 (d + 1) = _
      rw [r_readWants, grd_t (by exact ⟨by omega, by omega⟩)]
      simp only [bnd]
      rw [fd 72 (by omega) (by omega) _ (Or.inr rfl), t10.2.1, grd_t (by decide), if_pos rfl, fd 73 (by omega) (by omega) _ (Or.inr rfl), t10.2.2.1, m3, apc, Option.bind_some, hτi]
    have rdi : RDr n d τ2 τi := by
      rw [hτi]
      refine (apN_rd (RDr.rf _ _ _) ⟨Int.le_refl _, by omega, ?_⟩).sp 72 (d + 1) 0 (by omega) (by omega)
      rcases h86 with q | q
      · exact Or.inl q
      · exact Or.inr (by omega)
    have fi : ∀ g : Nat, fl τi g 0 = fl τ2 g 0 := fun g => by rw [hτi, fl_se, apN_fl]
    have ei : ∀ a i : Int, ¬ (a = 72 ∧ i = d + 1) → el τi a i = el (apN τ2 n cn) a i := fun a i hq => by rw [hτi, el_se, if_neg hq]
    have ein : ∀ a : Int, 88 ≤ a → a ≤ 94 → el τi a n = el τ a n := fun a z1 z2 => by
      rw [ei a n (by omega), apN_el _ _ _ _ _ (by omega), tb a n (by omega) z2 a9.2]
    have eif : ∀ a i : Int, 71 ≤ a → a ≤ 74 → (i = d ∨ i = d + 1) → ¬ (a = 72 ∧ i = d + 1) → el τi a i = el τb a i := fun a i z1 z2 z3 z4 => by
      rw [ei a i z4, apN_el _ _ _ _ _ (by omega), fd a z1 z2 i z3]
    have lfi : lf τi = lf τ2 := by unfold lf; rw [fi, fi]
    have tl : ∀ a i : Int, 85 ≤ a → a ≤ 94 → n + 1 ≤ i → i < fl τ 16 0 → (a = 85 → ∀ y, l.getLast? = some y → i ≠ eC y) → el τi a i = el τ a i := fun a i s1 s2 s3 s4 s5 => by
      rw [ei a i (by omega)]
      by_cases hne : l = []
      · have w := hn2.1
        rw [hne] at w
        have w' : el τ2 87 n = -1 := w
        unfold apN
        rw [if_pos w', el_se, if_neg (by omega), el_se, if_neg (by omega), el_se, if_neg (by omega), tb a i (by omega) s2 s4]
      · rcases hn2.2 with q | ⟨y, q1, q2⟩
        · exact absurd q hne
        · have s6 : a = 85 → i ≠ eC y := fun e => s5 e y q1
          rw [apN_el _ _ _ _ _ (by rw [q2]; omega), tb a i (by omega) s2 s4]
    obtain ⟨τ', e1, e2, e3, e4, e5, e6⟩ := end_turns (N := N) (Kd := 4) trn ⟨hd.1, by omega⟩ (by rw [eif 71 _ (by omega) (by omega) (Or.inr rfl) (by omega)]; exact t10.2.2.2) (by rw [fi, m2]) (by rw [fi]; exact g1'.2.2.1.2) (Or.inl rfl) ⟨by rw [eif 74 _ (by omega) (by omega) (Or.inl rfl) (by omega)]; exact t11.1, by rw [eif 72 _ (by omega) (by omega) (Or.inl rfl) (by omega)]; exact t11.2.1, by rw [eif 73 _ (by omega) (by omega) (Or.inl rfl) (by omega)]; exact t11.2.2⟩
    have f16 : fl τ' 16 0 = fl τ2 16 0 := by rw [e2 16 (by decide) (by decide), fi]
    have lf' : lf τ' = lf τ2 := by rw [← lfi]; unfold lf; rw [e2 1 (by decide) (by decide), e2 4 (by decide) (by decide)]
    have xi : XEs b Xo π' σ' τ' (L0 ++ egs (l ++ [x])) (Kn0 ++ (kn ++ kn2)) := by
      rw [← la, ← aa]
      exact ((g1'.rt hc rdi (by omega) hd.1 (by rw [fi]; omega) (fun g _ => fi g)).rt hc (e6 n d) (by omega) hd.1 (by rw [f16]; omega) (fun g hg => e2 g (by omega) (by omega))).sub hX
    refine ⟨π', σ', τ', o, 1 + t + 2, q1, rl.tr e1, q3, (rd2.tr rdi (Int.le_refl _) (Int.le_refl _)).tr (e6 n d) (Int.le_refl _) (Int.le_refl _), Or.inr ⟨x, kn ++ kn2, xO, xA, xi, ⟨e3, e4, by rw [e2 13 (by decide) (by decide), fi, m4]⟩, by omega, fun a z1 z2 => by rw [e5]; exact ein a z1 z2, fun a i s1 s2 s3 s4 s5 => by rw [e5]; exact tl a i s1 s2 s3 s4 s5, ?_, ?_, ?_, ?_, ⟨?_, ?_, ?_, ?_, ?_, ?_, ?_⟩, by rw [lf']; exact m11⟩⟩
    · rw [f16]; exact u1.cg (List.prefix_refl _) (fun y _ a i z1 z2 _ _ _ => by rw [e5]; exact ei a i (by omega))
    · rw [f16]; exact ECn.mv u1 u2 ⟨by rw [e5]; exact ei 87 n (by omega), by rw [e5]; exact ei 86 n (by omega)⟩ (Int.le_refl _) (fun y _ => ⟨by rw [e5]; exact ei 94 _ (by omega), by rw [e5]; exact ei 85 _ (by omega)⟩)
    · intro y hy
      rw [eg] at hy
      rcases List.mem_append.1 hy with q | q
      · exact a13 y q
      · exact m8 y q
    · rw [lf']; exact EBd.app (by rw [xW]; omega) (b1.mono (by omega) (by omega)) (by rw [xZ]; omega) (by omega)
    · rw [lf', xK]; exact y5
    · rw [lf', f16]; omega
    · rw [lf', eg, List.length_append]; push_cast; omega
    · rw [lf', List.length_append]; push_cast; omega
    · rw [lf']; push_cast; omega
    · rw [lf']; exact y7
    · rw [lf', xS]; exact m9
end AL9
