/-! FUNs in brackets: a piece is read -/
section PM9
variable {N : Nat} {b : Bse} {Xo : Int → Prop} {dl : List (Int × Int)} {rA rF : Sh → St → Option (Sh × St × Int)}
/-- a piece was read and linked; the reference's turn goes on behind the appending -/
def PLH (N : Nat) (b : Bse) (dl : List (Int × Int)) (Xo : Int → Prop) (op d n : Int) (L0 : List Stq) (Kn0 : List Int) (π0 : Sh) (σ0 τ0 : St) (π : Sh) (σ τ : St) (l : List Ech) (kn : List Int) (fc cl w z A B : Int) (m k : Nat) (T : Nat) : Prop := XEs b Xo π σ τ (L0 ++ egs l) (Kn0 ++ kn) ∧ EFt (bX b) (bY b) π0 σ0 π σ ∧ RDr n d τ0 τ ∧ (fl τ 41 0 = d + 1 ∧ el τ 74 d = 8 ∧ el τ 72 d = 1 ∧ el τ 73 d = n) ∧ fl τ 13 0 = op + 1 ∧ (n = fl τ0 16 0 ∧ n < fl τ 16 0) ∧ el τ 94 n = 11 ∧ ECs N b τ (Kn0 ++ kn) L0.length (n + 1) (fl τ 16 0) l ∧ ECn τ (n + 1) (fl τ 16 0) n l ∧ (∀ y ∈ egs l, y.1 = 99 → Uoe dl b y) ∧ (∀ y ∈ l, eO y = none) ∧ (∀ q : Nat, 21 ≤ op + q → CHa N (Pc_applyC N q) (bD b) (bP b) (bV b) (n + 1) (fl τ 16 0) m k w z A B (Uoe dl b) (eaz l) ((l.map eC).reverse.map (fun c => (11, c))) cl (nn π0) (nn π) π σ τ fc) ∧ (∀ x, l.getLast? = some x → eC x = cl) ∧ (l ≠ [] ∧ ob π fc 6 ∧ nn π0 ≤ fc) ∧ EBd ((lf τ0 - lf τ + 28 * (20 - op)) / 2) ((lf τ0 - lf τ + 28 * (20 - op)) / 2) l ∧ ((0 ≤ w ∧ 2 * w + lf τ ≤ lf τ0 + 28 * (20 - op)) ∧ (0 ≤ z ∧ 2 * z + lf τ ≤ lf τ0 + 28 * (20 - op))) ∧ ((ekk l : Int) + k + 12 * lf τ + 10 * l.length ≤ 12 * lf τ0 + 2 ∧ ((egs l).length : Int) + m + 2 * lf τ + 2 ≤ 2 * lf τ0 ∧ (kn.length : Int) + lf τ + 1 ≤ lf τ0 ∧ fl τ 16 0 + 3 * lf τ + 2 ≤ fl τ0 16 0 + 3 * lf τ0 ∧ (T : Int) + 23 + 20 * lf τ ≤ 20 * lf τ0 ∧ 2 * (l.length : Int) + lf τ ≤ lf τ0) ∧ (0 ≤ A ∧ 0 ≤ B) ∧ (nn π : Int) + A + 12 ≤ nn π0 + 12 * (lf τ0 - lf τ) ∧ (sw π : Int) + 4 * cpc π0 σ0 (bX b) + 4 * cpc π0 σ0 (bY b) + B + 150 ≤ sw π0 + 4 * cpc π σ (bX b) + 4 * cpc π σ (bY b) + 150 * (lf τ0 - lf τ)
theorem eaz_app (l m : List Ech) : eaz (l ++ m) = eaz l ++ eaz m := by
  induction l with
  | nil => rfl
  | cons x xs ih =>
    show (match eO x with | some o => [(eC x, o)] | none => eA x) ++ eaz (xs ++ m) = ((match eO x with | some o => [(eC x, o)] | none => eA x) ++ eaz xs) ++ eaz m
    rw [ih, List.append_assoc]
set_option maxHeartbeats 4000000 in
theorem pl_ok {op d n fc cl m' w z A B : Int} {L0 : List Stq} {Kn0 kn : List Int} {π0 π π2 : Sh} {σ0 τ0 σ τ σ2 τ2 : St} {l : List Ech} {m k T t : Nat} {pc : Int} (hN : 30000001 ≤ N) (hc : CTX b dl) (h0 : XEs b Xo π0 σ0 τ0 L0 Kn0) (hB0 : PRE τ0 L0 Kn0) (hop : fl τ0 13 0 = op ∧ 0 ≤ op ∧ op < 20) (hd : 0 ≤ d ∧ d < 500) (h : PLA N b dl Xo op d n L0 Kn0 π0 σ0 τ0 π σ τ l kn fc cl m' w z A B m k T) (e : EFt (bX b) (bY b) π σ π2 σ2) (rd : RDr (fl τ 16 0) (d + 1) τ τ2) (hf : FUk N b dl Xo (L0 ++ egs l) (Kn0 ++ kn) (d + 1) 3 5 6 7 0 0 (fun x => x) (rPc N b) π σ τ π2 σ2 τ2 pc t) : ∃ τa x kn2 w2 z2 A2 B2 m2 k2, 0 ≤ pc ∧ ob π2 pc 6 ∧ fl σ2 182 1 = 0 ∧ TKr σ2 τ2 ∧ lf τ2 + 1 ≤ lf τ ∧ (fl τ2 41 0 = d + 1 ∧ fl τ2 11 0 = 0 ∧ el τ2 74 d = 8 ∧ el τ2 72 d = 1 ∧ el τ2 73 d = n) ∧ r_append N τ2 n (fl τ2 46 0) = some τa ∧ (∀ g : Nat, fl τa g 0 = fl τ2 g 0) ∧ (∀ a i, a < 85 → el τa a i = el τ2 a i) ∧ PLH N b dl Xo op d n L0 Kn0 π0 σ0 τ0 π2 (sf σ2 127 pc fc) τa (l ++ [x]) kn2 pc (eC x) w2 z2 A2 B2 m2 k2 (T + t) := by
  obtain ⟨a1, a2, a3, a4, a5, a6, a7, a8, a9, a10, a11, a12, a13, a14, a15, a16, ⟨a17, a18⟩, ⟨b1, b2, b3, b4, b5, b6⟩, ⟨b7, b8⟩, b9, b10⟩ := h
  obtain ⟨seg, kn1, c, av, w1, z1, k1, m1, kA, wA, zA, A1, B1, g1, ⟨g2, g3, g4⟩, g5, g6, g7, g8, g9, ⟨g10, g10', g10''⟩, g11, ⟨v1, v2, v3, v4⟩, ⟨y1, y2, y3, y4, y5, y6⟩, ⟨x1, x2, x3⟩⟩ := hf
  rw [a6] at v1 v2 v3 v4 g4 g11
  have l0 := h0.2.1.lf
  have l1 := a1.2.1.lf
  have l2 := g1.2.1.lf
  have v16 := h0.2.2.2.2.2.2.2.2.1
  have bv : 0 ≤ bV b := by obtain ⟨-, -, -, -, -, -, -, -, -, q⟩ := hc; exact q
  have hP : bP b ≤ 4 := by obtain ⟨-, -, -, -, ⟨q, -⟩, -⟩ := hc; exact q.2
  have nb := h0.2.2.2.2.2.2.1.1.1
  have n56 := h0.1.1
  have n01 := a2.1.1
  have n12 := e.1.1
  have lx := g1.lt hc
  unfold PRE at hB0
  have h216 : fl τ2 16 0 ≤ 32768 := by omega
  have cb : 0 ≤ c ∧ c < 32768 := by omega
  have pcb : 56 ≤ pc ∧ nn b.1 ≤ pc ∧ (nn π : Int) ≤ pc := by omega
  have n0b : 0 ≤ n ∧ bV b ≤ n := by omega
  obtain ⟨x, hx⟩ : ∃ x : Ech, x = (c, none, av, seg, (fl τ 16 0, fl τ2 16 0), (w1, z1), k1) := ⟨_, rfl⟩
  have xC : eC x = c := by rw [hx]; rfl
  have xO : eO x = none := by rw [hx]; rfl
  have xA : eA x = av := by rw [hx]; rfl
  have xS : eS x = seg := by rw [hx]; rfl
  have xL : eL x = fl τ 16 0 := by rw [hx]; rfl
  have xH : eH x = fl τ2 16 0 := by rw [hx]; rfl
  have xW : eW x = w1 := by rw [hx]; rfl
  have xZ : eZ x = z1 := by rw [hx]; rfl
  have xK : eK x = k1 := by rw [hx]; rfl
  have eg : egs (l ++ [x]) = egs l ++ seg := by
    rw [egs_app]
    show egs l ++ (eS x ++ []) = _
    rw [xS, List.append_nil]
  have ek : ekk (l ++ [x]) = ekk l + k1 + 2 := by rw [ekk_app, xK]
  have ea : eaz (l ++ [x]) = eaz l ++ av := by
    rw [eaz_app]
    show eaz l ++ ((match eO x with | some o => [(eC x, o)] | none => eA x) ++ []) = _
    rw [xO, xA, List.append_nil]
  have tb : ∀ a i : Int, 84 ≤ a → a ≤ 94 → i < fl τ 16 0 → el τ2 a i = el τ a i := fun a i x1 x2 x3 => rd.2.2.1 a i x1 x2 x3
  have fr : ∀ a : Int, 71 ≤ a → a ≤ 74 → el τ2 a d = el τ a d := fun a x1 x2 => rd.2.2.2 a d x1 x2 (by omega)
  have mem := a9.le.2
  have pre : (Kn0 ++ kn) <+: (Kn0 ++ kn) ++ kn1 := List.prefix_append _ _
  have aa : (Kn0 ++ kn) ++ kn1 = Kn0 ++ (kn ++ kn1) := List.append_assoc _ _ _
  have la : (L0 ++ egs l) ++ seg = L0 ++ egs (l ++ [x]) := by rw [eg, List.append_assoc]
  have lj : ((L0 ++ egs l).length : Int) = L0.length + (egs l).length := by rw [List.length_append]; omega
  have hs2 : ECs N b τ2 (Kn0 ++ (kn ++ kn1)) L0.length (n + 1) (fl τ 16 0) l := by
    rw [← aa]
    exact a9.cg pre (fun y hy a i x1 x2 x3 x4 _ => tb a i (by omega) x2 (by have := mem y hy; omega))
  have hn2 : ECn τ2 (n + 1) (fl τ 16 0) n l := ECn.mv a9 a10 ⟨tb 87 n (by omega) (by omega) a7.2, tb 86 n (by omega) (by omega) a7.2⟩ (Int.le_refl _) (fun y hy => by
    have := mem y hy
    exact ⟨tb 94 _ (by omega) (by omega) (by omega), tb 85 _ (by omega) (by omega) (by omega)⟩)
  have ex1 : EC1 N b τ2 (Kn0 ++ (kn ++ kn1)) (L0.length + (egs l).length) x := by
    refine ⟨by rw [xL, xH, xC]; exact ⟨cb, g5⟩, by rw [xL, xH]; exact ⟨by omega, by omega⟩, by rw [xC]; exact ⟨by omega, by omega, by omega⟩, fun q hq => by rw [xA] at hq; rw [xL, xH]; exact g8 q hq, Or.inr ⟨xO, by rw [xC]; exact g6, ?_⟩⟩
    rw [xL, xH, xC, xS, xA, xW, xZ, xK, ← aa, ← lj]
    exact g7
  have nr : ∀ y, y ∈ l ∨ y = x → ¬ (eL y ≤ n ∧ n < eH y) := fun y hy => by
    rcases hy with q | q
    · have := mem y q; omega
    · rw [q, xL]; have := a7.2; omega
  obtain ⟨u1, u2⟩ := ECn.app (hi' := fl τ2 16 0) hs2 hn2 ex1 xC nr (by rw [xL]; exact Int.le_refl _) (by rw [xH]; exact Int.le_refl _)
  have h86 : el τ2 87 n = -1 ∨ (inb (el τ2 86 n) 32768 ∧ n + 1 ≤ el τ2 86 n ∧ el τ2 86 n < fl τ 16 0) := by
    by_cases hne : l = []
    · left; have w := hn2.1; rw [hne] at w; exact w
    · have w := ECn.h hs2 hn2 ⟨by omega, by omega⟩ hne
      right; exact ⟨w.1, w.2.2.1, w.2.2.2⟩
  have h87 : i32 (el τ2 87 n) := by
    by_cases hne : l = []
    · have w := hn2.1; rw [hne] at w; have w' : el τ2 87 n = -1 := w; rw [w']; decide
    · exact (ECn.h hs2 hn2 ⟨by omega, by omega⟩ hne).2.1
  have apc : r_append N τ2 n c = some (apN τ2 n c) := r_append' ⟨by omega, by omega⟩ cb (by rcases h86 with q | q; exact Or.inl q; exact Or.inr q.1) h87
  obtain ⟨τa, hτa⟩ : ∃ τa, τa = apN τ2 n c := ⟨_, rfl⟩
  have fa : ∀ g : Nat, fl τa g 0 = fl τ2 g 0 := fun g => by rw [hτa, apN_fl]
  have ela : ∀ a i : Int, a < 85 → el τa a i = el τ2 a i := fun a i ha => by rw [hτa, apN_el _ _ _ _ _ (by omega)]
  -- tables of children that were there, and of the new one
  have tx : ∀ a i : Int, 85 ≤ a → a ≤ 94 → fl τ 16 0 ≤ i → i < fl τ2 16 0 → ¬ (a = 85 ∧ i = c) → el τa a i = el τ2 a i := fun a i s1 s2 s3 s4 s5 => by
    rw [hτa]
    rcases h86 with q | q
    · unfold apN
      rw [if_pos q, el_se, if_neg s5, el_se, if_neg (by omega), el_se, if_neg (by omega)]
    · exact apN_el _ _ _ _ _ (by omega)
  have tl : ∀ a i : Int, 85 ≤ a → a ≤ 94 → n + 1 ≤ i → i < fl τ 16 0 → ¬ (a = 85 ∧ i = cl) → el τa a i = el τ a i := fun a i s1 s2 s3 s4 s5 => by
    have hcl : l ≠ [] → el τ2 86 n = cl := fun hne => by
      rcases hn2.2 with q | ⟨y, q1, q2⟩
      · exact absurd q hne
      · rw [q2]; exact a14 y q1
    rw [hτa]
    by_cases hne : l = []
    · have w := hn2.1
      rw [hne] at w
      have w' : el τ2 87 n = -1 := w
      unfold apN
      rw [if_pos w', el_se, if_neg (by omega), el_se, if_neg (by omega), el_se, if_neg (by omega), tb a i (by omega) s2 s4]
    · have w := hcl hne
      rw [apN_el _ _ _ _ _ (by rw [w]; omega), tb a i (by omega) s2 s4]
  have rda : RDr n d τ2 τa := by
    rw [hτa]
    refine apN_rd (RDr.rf _ _ _) ⟨Int.le_refl _, by omega, ?_⟩
    rcases h86 with q | q
    · exact Or.inl q
    · exact Or.inr (by omega)
  have lfa : lf τa = lf τ2 := by unfold lf; rw [fa, fa]
  -- the class
  have pw : PWr σ2 (sf σ2 127 pc fc) pc := PWr.sf _ 127 _ _ (by decide)
  have xa : XEs b Xo π2 (sf σ2 127 pc fc) τa (L0 ++ egs (l ++ [x])) (Kn0 ++ (kn ++ kn1)) := by
    rw [← la, ← aa]
    exact (g1.pw pw ⟨pcb.2.1, pcb.1⟩).rt hc rda (by omega) hd.1 (by rw [fa]; omega) (fun g _ => fa g)
  have kf : ∀ (f : Nat) (j : Int), ¬ (j = pc ∧ f = 127) → fl (sf σ2 127 pc fc) f j = fl σ2 f j := fun f j hq => by rw [fl_sf, if_neg (by omega)]
  have b3' := hc.2.2.1
  have k1e : fl (sf σ2 127 pc fc) 1 (bX b) = fl σ2 1 (bX b) ∧ fl (sf σ2 127 pc fc) 1 (bY b) = fl σ2 1 (bY b) := ⟨kf 1 _ (by omega), kf 1 _ (by omega)⟩
  have e02 : EFt (bX b) (bY b) π0 σ0 π2 (sf σ2 127 pc fc) := (a2.tr e).own ⟨ext.rf _, fun f i hi => kf f i (by omega), fun a j _ => pw.2 a j⟩ k1e
  have cx : cpc π2 (sf σ2 127 pc fc) (bX b) = cpc π2 σ2 (bX b) := cpc_eq k1e.1 (ext.rf _) lx.2.1.1
  have cy : cpc π2 (sf σ2 127 pc fc) (bY b) = cpc π2 σ2 (bY b) := cpc_eq k1e.2 (ext.rf _) lx.2.1.2
  -- cells of earlier pieces
  have pfl : PFx (nn π0) (nn π) (-1) π σ π2 (sf σ2 127 pc fc) := by
    have xx := a1.x hc
    have bd := a1.2.2.2.2.2.1
    have ar1 := bd.2.1.ar
    have ar2 := bd.2.2.1.ar
    rw [xx.1] at ar1
    rw [xx.2] at ar2
    refine ⟨e.1, fun f i s1 s2 s3 s4 _ => ?_, fun a j s1 s2 ho => ?_⟩
    · rw [kf f i (by omega)]
      exact e.2.1 f i s4 (by omega) (by omega) (by omega) (by omega)
    · rw [pw.2]
      refine e.2.2.1 a j s2 (fun w => ?_) (fun w => ?_)
      · rcases ar1 with q | q
        · rw [← w] at q; have := ho.1; omega
        · rw [← w] at q; have t := q.2.2; rw [ho.2.2] at t; exact absurd t (by decide)
      · rcases ar2 with q | q
        · rw [← w] at q; have := ho.1; omega
        · rw [← w] at q; have t := q.2.2; rw [ho.2.2] at t; exact absurd t (by decide)
  have pfp : PFx (nn π) (nn π2) pc π2 σ2 π2 (sf σ2 127 pc fc) := ⟨ext.rf _, fun f i _ _ _ _ w => kf f i (fun q => w ⟨q.2, q.1⟩), fun a j _ _ _ => pw.2 a j⟩
  have f127 : fl (sf σ2 127 pc fc) 127 pc = fc := fl_sfs _ _ _ _
  have tsl : (((l.map eC).reverse.map (fun c => ((11 : Int), c))).length : Int) = l.length := by simp
  have rev : ((l ++ [x]).map eC).reverse.map (fun c => ((11 : Int), c)) = (11, c) :: (l.map eC).reverse.map (fun c => ((11 : Int), c)) := by
    rw [List.map_append, List.reverse_append, List.map_append]
    show [(11, eC x)] ++ _ = _
    rw [xC]; rfl
  obtain ⟨W, hW⟩ : ∃ W, W = (lf τ0 - lf τ2 + 28 * (20 - op)) / 2 := ⟨_, rfl⟩
  have eazl := eaz_in a9 (by omega)
  have g7le := a7.2
  have pcl : pc < nn π2 := g10.2.1
  have chn : ∀ q : Nat, 21 ≤ op + q → CHa N (Pc_applyC N q) (bD b) (bP b) (bV b) (n + 1) (fl τ2 16 0) (m1 + m) (kA + k) W W (A1 + A) (B1 + B) (Uoe dl b) (eaz (l ++ [x])) (((l ++ [x]).map eC).reverse.map (fun c => ((11 : Int), c))) c (nn π0) (nn π2) π2 (sf σ2 127 pc fc) τa pc := fun q hq => by
    have c1 := (a13 q hq).at pfl (fun a i s1 s2 s3 s4 s5 => tl a i s1 s2 s3 s4 s5)
    have c2 : APs N (bD b) (bP b) (bV b) (fl τ 16 0) (fl τ2 16 0) m1 kA wA zA A1 B1 (Uoe dl b) av 11 c (nn π) (nn π2) pc π2 (sf σ2 127 pc fc) τa (fun π σ p => Pc_applyC N q π σ pc (bD b) p) := (g11 q (by omega)).at pfp (fun a i s1 s2 s3 s4 s5 => tx a i s1 s2 s3 s4 s5)
    have c3 := CHa.cons (lo := n + 1) (hi := fl τ2 16 0) (w := W) (z := W) (s0 := nn π0) (s1 := nn π2) hP c2 c1 g10 f127 ⟨pcb.2.2, pcl⟩ ⟨⟨Int.le_refl _, by omega⟩, ⟨by omega, Int.le_refl _⟩, Int.le_refl _⟩ ⟨⟨by omega, Int.le_refl _⟩, ⟨Int.le_refl _, by omega⟩, Int.le_refl _⟩ g5.1 (fun y hy => by have := eazl y hy; exact ⟨this.1, by omega⟩) (by rw [tsl]; omega) (by omega) (by omega)
    rw [rev]
    intro nn' i s1 s2 s3
    have c4 := c3 nn' i s1 s2 s3
    exact APl.mono c4 ⟨Int.le_refl _, Int.le_refl _⟩ (Nat.le_refl _) (Nat.le_refl _) ⟨Int.le_refl _, Int.le_refl _⟩ ⟨Int.le_refl _, Int.le_refl _⟩ ⟨Int.le_refl _, Int.le_refl _⟩ (fun _ _ => rfl) (fun y hy => by
      rw [ea]
      rcases List.mem_append.1 hy with s | s
      · exact List.mem_append.2 (Or.inr s)
      · exact List.mem_append.2 (Or.inl s))
  refine ⟨τa, x, kn ++ kn1, W, W, A1 + A, B1 + B, m1 + m, kA + k, by omega, g10, g1.2.2.1.1, g1.2.1, y6, ⟨g2, g1.2.2.1.2, by rw [fr 74 (by omega) (by omega)]; exact a4.2.1, by rw [fr 72 (by omega) (by omega)]; exact a4.2.2.1, by rw [fr 73 (by omega) (by omega)]; exact a4.2.2.2⟩, by rw [g3, hτa]; exact apc, fa, ela, xa, e02, (a3.tr rd (by omega) (by omega)).tr rda (Int.le_refl _) (Int.le_refl _), ⟨by rw [fa]; exact g2, by rw [ela 74 d (by omega), fr 74 (by omega) (by omega)]; exact a4.2.1, by rw [ela 72 d (by omega), fr 72 (by omega) (by omega)]; exact a4.2.2.1, by rw [ela 73 d (by omega), fr 73 (by omega) (by omega)]; exact a4.2.2.2⟩, by rw [fa, g4], ⟨a7.1, by rw [fa]; omega⟩, ?_, by rw [fa, hτa]; exact u1, by rw [fa, hτa]; exact u2, ?_, ?_, by rw [fa, xC]; exact chn, ?_, ⟨by simp, g10, by omega⟩, ?_, ⟨⟨by omega, by rw [lfa]; omega⟩, ⟨by omega, by rw [lfa]; omega⟩⟩, ⟨?_, ?_, ?_, ?_, ?_, ?_⟩, ⟨by omega, by omega⟩, ?_, ?_⟩
  · rw [hτa, apN_el _ _ _ _ _ (by omega), tb 94 n (by omega) (by omega) a7.2]; exact a8
  · intro y hy
    rw [eg] at hy
    rcases List.mem_append.1 hy with q | q
    · exact a11 y q
    · exact g9 y q
  · intro y hy
    rcases List.mem_append.1 hy with q | q
    · exact a12 y q
    · have : y = x := by simpa using q
      rw [this, xO]
  · intro y hy
    have : y = x := by simpa using hy.symm
    rw [this]
  · rw [lfa]
    exact EBd.app (by rw [xW]; omega) (a16.mono (by omega) (by omega)) (by rw [xZ]; omega) (by omega)
  · rw [lfa, ek]; simp only [List.length_append, List.length_singleton]; push_cast; omega
  · rw [lfa, eg, List.length_append]; push_cast; omega
  · rw [lfa, List.length_append]; push_cast; omega
  · rw [lfa, fa]; omega
  · rw [lfa]; push_cast; omega
  · rw [lfa]; simp only [List.length_append, List.length_singleton]; push_cast; omega
  · rw [lfa]; have := x3.1; omega
  · rw [lfa, cx, cy]; have := x3.2; omega
end PM9
