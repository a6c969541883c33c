/-! a function with what it wants: a FUN -/
def WSF (N : Nat) (b : Bse) (dl : List (Int × Int)) (Xo : Int → Prop) (fC fR K Kd d n pc place op e0 : Int) (L0 : List Stq) (Kn0 : List Int) (π0 : Sh) (σ0 τ0 : St) (π : Sh) (σ τ : St) (a a2 c c2 : Int) (x : Ech) (kn : List Int) (T : Nat) (fc : Int) (m kA : Nat) (wA zA A B : Int) : Prop := XEs b Xo π σ τ (L0 ++ eS x) (Kn0 ++ kn) ∧ (PCf π σ pc fC place a a2 c c2 ∧ fl σ 126 pc = fc ∧ fl σ 127 pc = -1) ∧ (pc = nn π0 ∧ pc + 2 ≤ nn π) ∧ EFt (bX b) (bY b) π0 σ0 π σ ∧ RDr n d τ0 τ ∧ (fl τ 41 0 = d + 2 ∧ el τ 74 (d + 1) = 6 ∧ el τ 72 (d + 1) = 0 ∧ el τ 73 (d + 1) = n) ∧ (el τ 74 d = Kd ∧ el τ 72 d = 1 ∧ el τ 73 d = n) ∧ fl τ 13 0 = op ∧ (n = fl τ0 16 0 ∧ n < fl τ 16 0) ∧ (FN τ n place fR a a2 c c2 ∧ el τ 94 n = K) ∧ ECs N b τ (Kn0 ++ kn) L0.length (n + 1) (fl τ 16 0) [x] ∧ ECn τ (n + 1) (fl τ 16 0) n [x] ∧ (∀ y ∈ eS x, y.1 = 99 → Uoe dl b y) ∧ eO x = none ∧ (∀ q : Nat, 21 ≤ op + q → APs N (bD b) (bP b) (bV b) (n + 1) (fl τ 16 0) m kA wA zA A B (Uoe dl b) (eA x) 11 (eC x) (pc + 2) (nn π) (-1) π σ τ (rFn N b q fc)) ∧ ((0 ≤ eW x ∧ 2 * eW x + lf τ ≤ e0 + 28 * (20 - op) + 2) ∧ (0 ≤ eZ x ∧ 2 * eZ x + lf τ ≤ e0 + 28 * (20 - op) + 6) ∧ (0 ≤ wA ∧ 2 * wA + lf τ ≤ e0 + 28 * (20 - op) + 8) ∧ (0 ≤ zA ∧ 2 * zA + lf τ ≤ e0 + 28 * (20 - op) + 12)) ∧ ((eK x : Int) + kA + 12 * lf τ + 11 ≤ 12 * e0 ∧ ((eS x).length : Int) + m + 2 * lf τ + 2 ≤ 2 * e0 ∧ (kn.length : Int) + lf τ + 1 ≤ e0 ∧ fl τ 16 0 + 3 * lf τ + 2 ≤ fl τ0 16 0 + 3 * e0 ∧ (T : Int) + 18 + 20 * lf τ ≤ 20 * lf τ0 ∧ (e0 ≤ lf τ0 ∧ lf τ + 2 ≤ e0)) ∧ (0 ≤ A ∧ 0 ≤ B) ∧ (nn π : Int) + 10 + A ≤ nn π0 + 12 * (e0 - lf τ) ∧ (sw π : Int) + 4 * cpc π0 σ0 (bX b) + 4 * cpc π0 σ0 (bY b) + 136 + B ≤ sw π0 + 4 * cpc π σ (bX b) + 4 * cpc π σ (bY b) + 150 * (e0 - lf τ)
section WE9
variable {N : Nat} {b : Bse} {Xo : Int → Prop} {dl : List (Int × Int)} {rF : Sh → St → Option (Sh × St × Int)}
set_option maxHeartbeats 4000000 in
theorem ws_fun {fC fR K Kd us d n pc place op e0 a a2 c c2 : Int} {r : List Int} {L0 : List Stq} {Kn0 : List Int} {π0 π : Sh} {σ0 τ0 σ τp τ : St} {T : Nat} (hN : 30000001 ≤ N) (hc : CTX b dl) (h0 : XEs b Xo π0 σ0 τ0 L0 Kn0) (hB0 : PRE τ0 L0 Kn0) (hd : 0 ≤ d ∧ d + 2 ≤ 10 * op + 11) (hop : fl τ0 13 0 = op) (h : WST N b dl Xo fC fR K Kd us d n pc place op e0 L0 Kn0 π0 σ0 τ0 π σ τ a a2 c c2 [] [] T) (ht : TRN N τp τ d n) (h71 : el τ 71 (d + 1) = nuw (3 :: r)) (hr : ∀ x ∈ r, 1 ≤ x ∧ x ≤ 4) (hl : r.length ≤ 3) (hF : FUH N b dl rF op) : ∃ π' σ' fc σ'' τp' t, rF π σ = some (π', σ', fc) ∧ σ'' = sf σ' 126 pc fc ∧ ob π' pc 6 ∧ RLp N t τp τp' ∧ ((fl σ'' 182 1 ≠ 0 ∧ i32 (fl σ'' 182 1) ∧ EFt (bX b) (bY b) π0 σ0 π' σ'' ∧ RDr n d τ0 τp' ∧ EXf b Xo L0 Kn0 0 π0 σ0 τ0 π' σ'' τp' (T + t)) ∨ ∃ x kn' τi m kA wA zA A B, WSF N b dl Xo fC fR K Kd d n pc place op e0 L0 Kn0 π0 σ0 τ0 π' σ'' τi a a2 c c2 x kn' (T + t) fc m kA wA zA A B ∧ TRN N τp' τi d n ∧ el τi 71 (d + 1) = nuw r ∧ fl σ'' 182 1 = 0) := by
  have opb := h0.2.2.2.1
  obtain ⟨τb, t1, t2, t3, t4, t5, t6, t7, t8, t9, t10, t11, t12⟩ := ws_arg (Kb := 7) hc h0 hB0 hd (by omega) h ht h71 (Or.inr ⟨rfl, rfl⟩) hr hl
  obtain ⟨a1, a2', a3, a4, a5, a6, a7, a8, a9, a10, a11, a12, a13, a14, a15, b1, b2, b3, b4, b5, b6, b7, b8⟩ := id h
  obtain ⟨π', σ', τ2, fc, t, q1, q2, q3, q4, q5⟩ := fun_wrap hc hF (fun x => Xo x ∨ x = pc + 1) π σ τb (L0 ++ egs []) (Kn0 ++ []) (d + 2) t2 t3 t4 ⟨by omega, by omega⟩ t5 t6
  have nb := h0.2.2.2.2.2.2.1.1.1
  have n56 := h0.1.1
  have lx := a1.lt hc
  have l1 := a1.2.1.lf
  have l0 := h0.2.1.lf
  have v16 := h0.2.2.2.2.2.2.2.2.1
  have bv : 0 ≤ bV b := by obtain ⟨-, -, -, -, -, -, -, -, -, q⟩ := hc; exact q
  have d500 : d < 300 := by omega
  have pb : 56 ≤ pc ∧ nn b.1 ≤ pc := by omega
  obtain ⟨p1, p2, p3, p4⟩ := PC.ef hc a1 a2'.1 a2'.2.1 pb.1 q3
  obtain ⟨σ'', hσ''⟩ : ∃ σ'', σ'' = sf σ' 126 pc fc := ⟨_, rfl⟩
  have kf : ∀ (f : Nat) (j : Int), ¬ (j = pc ∧ f = 126) → fl σ'' f j = fl σ' f j := fun f j hq => by rw [hσ'', fl_sf, if_neg (by omega)]
  have pw : PWr σ' σ'' pc := by rw [hσ'']; exact PWr.sf _ 126 _ _ (by decide)
  have n12 := q3.1.1
  have b3' := hc.2.2.1
  have k1 : fl σ'' 1 (bX b) = fl σ' 1 (bX b) ∧ fl σ'' 1 (bY b) = fl σ' 1 (bY b) := ⟨kf 1 _ (by omega), kf 1 _ (by omega)⟩
  have e0'' : EFt (bX b) (bY b) π0 σ0 π' σ'' := (a4.tr q3).own ⟨ext.rf _, fun f i hi => kf f i (by omega), fun a j _ => pw.2 a j⟩ k1
  have rl : RLp N (1 + t) τp τ2 := t1.tr q2
  have rd2 : RDr n d τ0 τ2 := t12.tr q4 (by omega) (by omega)
  rw [t7] at q5
  rw [show egs [] = ([] : List Stq) from rfl, List.append_nil, List.append_nil] at q5
  rcases q5 with ⟨f1, f2, f3⟩ | ⟨t', ht', f⟩
  · have fz := f1.f
    have lt' := f1.lt (q3.x hc a1)
    have cx : cpc π' σ'' (bX b) = cpc π' σ' (bX b) := cpc_eq k1.1 (ext.rf _) lt'.1
    have cy : cpc π' σ'' (bY b) = cpc π' σ' (bY b) := cpc_eq k1.2 (ext.rf _) lt'.2
    have fq : XQ b (fun x => Xo x ∨ x = pc + 1) π' σ'' τ2 (L0.length + 2 * lf τ + 4 * (20 - op)) (Kn0.length + lf τ) := by
      obtain ⟨y1, ⟨τt, y2⟩, y3, y4, L, Kn, y5, y6, y7⟩ := f1
      exact ⟨y1, ⟨τt, y2.cg (fun g _ => kf g 1 (by omega)) (fun j => pw.2 2 j) (fun _ _ => rfl) (fun _ => rfl)⟩, ⟨by rw [kf 182 1 (by omega)]; exact y3.1, by rw [kf 183 1 (by omega)]; exact y3.2.1, y3.2.2⟩, by rw [kf 144 44 (by omega)]; exact y4, L, Kn, y5.pw pw, y6, y7⟩
    refine ⟨π', σ', fc, σ'', τ2, 1 + t, q1, hσ'', p1.1, rl, Or.inl ⟨by rw [kf 182 1 (by omega)]; exact fz.1, by rw [kf 182 1 (by omega)]; exact fz.2, e0'', rd2, (fq.sub (X' := Xo) (fun x w => Or.inl w)).mono (by omega) (by omega), ⟨?_, ?_⟩, by push_cast; omega⟩⟩
    · have := f2.1; omega
    · have := f2.2; omega
  · obtain ⟨seg, kn2, cn, av, w, z, k, m, kA, wA, zA, A, B, g1', ⟨m2, m3, m4⟩, m5, m6, m7, m8, m9, m10, m11, ⟨w1, w2, w3, w4⟩, ⟨y1, y2, y3, y4, y5, y6⟩, ⟨z1, z2, z3⟩⟩ := f
    rw [t7] at w1 w2 w3 w4 y1 y2 y3 y4 y5 y6 z3
    rw [t3] at w1 w2 w3 w4 m4 m11
    rw [t8] at y4 m5 m7 m8 m11
    have x3 : XEs b Xo π' σ'' τ2 (L0 ++ seg) (Kn0 ++ kn2) := (g1'.pw pw ⟨pb.2, pb.1⟩).sub (fun x w => Or.inl w)
    have lx' := g1'.lt hc
    have l2 := g1'.2.1.lf
    have cx : cpc π' σ'' (bX b) = cpc π' σ' (bX b) := cpc_eq k1.1 (ext.rf _) lx'.2.1.1
    have cy : cpc π' σ'' (bY b) = cpc π' σ' (bY b) := cpc_eq k1.2 (ext.rf _) lx'.2.1.2
    unfold PRE at hB0
    obtain ⟨x, hx⟩ : ∃ x : Ech, x = (cn, none, av, seg, (fl τ 16 0, fl τ2 16 0), (w, z), k) := ⟨_, rfl⟩
    have xC : eC x = cn := by rw [hx]; rfl
    have xO : eO x = none := by rw [hx]; rfl
    have xA : eA x = av := by rw [hx]; rfl
    have xS : eS x = seg := by rw [hx]; rfl
    have xL : eL x = fl τ 16 0 := by rw [hx]; rfl
    have xH : eH x = fl τ2 16 0 := by rw [hx]; rfl
    have xW : eW x = w := by rw [hx]; rfl
    have xZ : eZ x = z := by rw [hx]; rfl
    have xK : eK x = k := by rw [hx]; rfl
    have tb : ∀ a i : Int, 84 ≤ a → a ≤ 94 → i < fl τ 16 0 → el τ2 a i = el τ a i := fun a i x1 x2 x3 => by rw [q4.2.2.1 a i x1 x2 (by omega), t9 a i x1]
    have h87 : el τ2 87 n = -1 := by rw [tb 87 n (by omega) (by omega) a9.2]; exact a12.1
    have ex1 : EC1 N b τ2 (Kn0 ++ kn2) ((L0.length : Int) + ((egs []).length : Nat)) x := by
      have z0 : (L0.length : Int) + ((egs []).length : Nat) = L0.length := by show (L0.length : Int) + ((0 : Nat) : Int) = _; omega
      rw [z0]
      refine ⟨by rw [xL, xH, xC]; exact ⟨⟨by omega, by omega⟩, m5⟩, by rw [xL, xH]; exact ⟨by omega, by omega⟩, by rw [xC]; exact ⟨by omega, by omega, by omega⟩, fun q hq => by rw [xA] at hq; rw [xL, xH]; exact m8 q hq, Or.inr ⟨xO, by rw [xC]; exact m6, ?_⟩⟩
      rw [xL, xH, xC, xS, xA, xW, xZ, xK]
      exact m7
    have nr : ∀ y, y ∈ ([] : List Ech) ∨ y = x → ¬ (eL y ≤ n ∧ n < eH y) := fun y hy => by
      rcases hy with q | q
      · exact absurd q (by simp)
      · rw [q, xL]; have := a9.2; omega
    have le16 : n + 1 ≤ fl τ 16 0 := by have := a9.2; omega
    obtain ⟨u1, u2⟩ := ECn.app (N := N) (b := b) (τ := τ2) (Kn := Kn0 ++ kn2) (j := L0.length) (lo := n + 1) (hi := fl τ 16 0) (hi' := fl τ2 16 0) (l := []) le16 ⟨h87, Or.inl rfl⟩ ex1 xC nr (by rw [xL]; exact Int.le_refl _) (by rw [xH]; exact Int.le_refl _)
    obtain ⟨τi, hτi⟩ : ∃ τi, τi = se (apN τ2 n cn) 72 (d + 1) 0 := ⟨_, rfl⟩
    have apc : r_append N τ2 n cn = some (apN τ2 n cn) := r_append' ⟨by omega, by omega⟩ ⟨by omega, by omega⟩ (Or.inl h87) (by rw [h87]; decide)
    have fd : ∀ a : Int, 71 ≤ a → a ≤ 74 → ∀ i, i = d ∨ i = d + 1 → el τ2 a i = el τb a i := fun a z1 z2 i hi => q4.2.2.2 a i z1 z2 (by omega)
    have trn : TRN N τ2 τi d n := by
      refine ⟨?_, by rw [m2], g1'.2.2.1.2, by rw [fd 74 (by omega) (by omega) _ (Or.inr rfl)]; exact t10.1⟩
      show r_readWants N τ2 (d + 1) = _
      rw [r_readWants, grd_t (by exact ⟨by omega, by omega⟩)]
      simp only [bnd]
      rw [fd 72 (by omega) (by omega) _ (Or.inr rfl), t10.2.1, grd_t (by decide), if_pos rfl, fd 73 (by omega) (by omega) _ (Or.inr rfl), t10.2.2.1, m3, apc, Option.bind_some, hτi]
    have rdi : RDr n d τ2 τi := by
      rw [hτi]
      exact (apN_rd (RDr.rf _ _ _) ⟨Int.le_refl _, by omega, Or.inl h87⟩).sp 72 (d + 1) 0 (by omega) (by omega)
    have fi : ∀ g : Nat, fl τi g 0 = fl τ2 g 0 := fun g => by rw [hτi, fl_se, apN_fl]
    have ei : ∀ a i : Int, ¬ (a = 72 ∧ i = d + 1) → el τi a i = el (apN τ2 n cn) a i := fun a i hq => by rw [hτi, el_se, if_neg hq]
    have eia : ∀ a i : Int, n + 1 ≤ i → 85 ≤ a → ¬ (a = 85 ∧ i = cn) → el τi a i = el τ2 a i := fun a i z1 z2 z3 => by
      rw [ei a i (by omega)]
      unfold apN
      rw [if_pos h87, el_se, if_neg z3, el_se, if_neg (by omega), el_se, if_neg (by omega)]
    have ein : ∀ a : Int, 88 ≤ a → a ≤ 94 → el τi a n = el τ a n := fun a z1 z2 => by
      rw [ei a n (by omega), apN_el _ _ _ _ _ (by omega), tb a n (by omega) z2 a9.2]
    have eif : ∀ a i : Int, 71 ≤ a → a ≤ 74 → (i = d ∨ i = d + 1) → ¬ (a = 72 ∧ i = d + 1) → el τi a i = el τb a i := fun a i z1 z2 z3 z4 => by
      rw [ei a i z4, apN_el _ _ _ _ _ (by omega), fd a z1 z2 i z3]
    have lfi : lf τi = lf τ2 := by unfold lf; rw [fi, fi]
    have xi : XEs b Xo π' σ'' τi (L0 ++ seg) (Kn0 ++ kn2) := x3.rt hc rdi (by omega) hd.1 (by rw [fi]; omega) (fun g _ => fi g)
    obtain ⟨pf1, pf2, pf3, pf4, pf5, pf6, pf7⟩ := p1
    have nge := a3.2
    refine ⟨π', σ', fc, σ'', τ2, 1 + t, q1, hσ'', pf1, rl, Or.inr ⟨x, kn2, τi, m, kA, wA, zA, A, B, ⟨by rw [xS]; exact xi, ⟨⟨pf1, ?_, ?_, ?_, ?_, ?_, ?_⟩, ?_, ?_⟩, ⟨a3.1, by omega⟩, e0'', rd2.tr rdi (Int.le_refl _) (Int.le_refl _), ⟨by rw [fi, m2], ?_, ?_, ?_⟩, ⟨?_, ?_, ?_⟩, by rw [fi, m4], ⟨a9.1, by rw [fi]; omega⟩, ⟨?_, ?_⟩, ?_, ?_, by rw [xS]; exact m9, xO, fun q hq => ?_, ⟨by rw [xW, lfi]; omega, by rw [xZ, lfi]; omega, by rw [lfi]; omega, by rw [lfi]; omega⟩, ⟨?_, ?_, ?_, ?_, ?_, ?_⟩, ⟨z1, z2⟩, ?_, ?_⟩, trn, ?_, ?_⟩⟩
    · rw [kf 120 pc (by omega)]; exact pf2
    · rw [kf 121 pc (by omega)]; exact pf3
    · rw [kf 122 pc (by omega)]; exact pf4
    · rw [kf 123 pc (by omega)]; exact pf5
    · rw [kf 124 pc (by omega)]; exact pf6
    · rw [kf 125 pc (by omega)]; exact pf7
    · rw [hσ'', fl_sfs]
    · rw [kf 127 pc (by omega), p3]; exact a2'.2.2.2.1
    · rw [eif 74 _ (by omega) (by omega) (Or.inr rfl) (by omega)]; exact t10.1
    · rw [hτi, el_ses]
    · rw [eif 73 _ (by omega) (by omega) (Or.inr rfl) (by omega)]; exact t10.2.2.1
    · rw [eif 74 _ (by omega) (by omega) (Or.inl rfl) (by omega)]; exact t11.1
    · rw [eif 72 _ (by omega) (by omega) (Or.inl rfl) (by omega)]; exact t11.2.1
    · rw [eif 73 _ (by omega) (by omega) (Or.inl rfl) (by omega)]; exact t11.2.2
    · obtain ⟨⟨s1, s2, s3, s4, s5, s6⟩, s7⟩ := a10
      exact ⟨by rw [ein 93 (by omega) (by omega)]; exact s1, by rw [ein 92 (by omega) (by omega)]; exact s2, by rw [ein 91 (by omega) (by omega)]; exact s3, by rw [ein 90 (by omega) (by omega)]; exact s4, by rw [ein 89 (by omega) (by omega)]; exact s5, by rw [ein 88 (by omega) (by omega)]; exact s6⟩
    · rw [ein 94 (by omega) (by omega)]; exact a10.2
    · rw [fi]; exact u1.cg (List.prefix_refl _) (fun y _ a i z1 z2 _ _ _ => ei a i (by omega))
    · rw [fi]; exact ECn.mv u1 u2 ⟨ei 87 n (by omega), ei 86 n (by omega)⟩ (Int.le_refl _) (fun y _ => ⟨ei 94 _ (by omega), ei 85 _ (by omega)⟩)
    · rw [xA, xC, fi]
      have w := m11 q (by omega)
      have w2 : APs N (bD b) (bP b) (bV b) (fl τ 16 0) (fl τ2 16 0) m kA wA zA A B (Uoe dl b) av 11 cn (nn π) (nn π') (-1) π' σ'' τi (rFn N b q fc) := w.at ⟨ext.rf _, fun f i z1 z2 z3 z4 _ => kf f i (by omega), fun a j _ _ _ => pw.2 a j⟩ (fun a i z1 z2 z3 z4 z5 => eia a i (by omega) z1 z5)
      exact APl.mono w2 ⟨le16, Int.le_refl _⟩ (Nat.le_refl _) (Nat.le_refl _) ⟨Int.le_refl _, Int.le_refl _⟩ ⟨Int.le_refl _, Int.le_refl _⟩ ⟨by omega, Int.le_refl _⟩ (fun _ _ => rfl) (fun _ hx => hx)
    · rw [xK, lfi]
      have b2' : ((1 : Nat) : Int) + 12 * lf τ + 11 ≤ 12 * e0 + 2 * ((0 : Nat) : Int) := b2
      omega
    · rw [xS, lfi]
      have b4' : ((0 : Nat) : Int) + 2 * lf τ + 2 ≤ 2 * e0 := b4
      omega
    · rw [lfi]
      have b5' : ((0 : Nat) : Int) + lf τ + 1 ≤ e0 := b5
      omega
    · rw [fi, lfi]; omega
    · rw [lfi]; push_cast; omega
    · rw [lfi]
      have b5' : ((0 : Nat) : Int) + lf τ + 1 ≤ e0 := b5
      have := a15.2
      omega
    · rw [lfi]; have := z3.1; omega
    · rw [lfi, cx, cy]; have := z3.2; omega
    · rw [eif 71 _ (by omega) (by omega) (Or.inr rfl) (by omega)]; exact t10.2.2.2
    · rw [kf 182 1 (by omega)]; exact g1'.2.2.1.1
end WE9
