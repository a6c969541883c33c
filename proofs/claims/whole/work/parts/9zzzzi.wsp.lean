/-! a function with what it wants: patterns -/
section WD9
variable {N : Nat} {b : Bse} {Xo : Int → Prop} {dl : List (Int × Int)} {rA : Sh → St → Option (Sh × St × Int)}
/-- an operand is given to the piece -/
theorem pc_give {π : Sh} {σ : St} {pc o : Int} {oas : List Int} (ho : ob π pc 6) (ha : PCa π σ pc oas) (hl : oas.length < 3) : Pc_give N π σ pc o = some (sf (se σ (fl σ 129 pc) oas.length o) 130 pc (oas.length + 1)) ∧ PCa π (sf (se σ (fl σ 129 pc) oas.length o) 130 pc (oas.length + 1)) pc (oas ++ [o]) := by
  obtain ⟨⟨a1, a2⟩, a3, a4, a5⟩ := ha
  constructor
  · rw [Pc_give, grd_t ho, a3, grd_t (by exact ⟨by omega, by omega⟩), if_pos (by omega), grd_t a1, grd_t (by exact ⟨by omega, by omega, by omega⟩)]
  · have e : fl (sf (se σ (fl σ 129 pc) oas.length o) 130 pc (oas.length + 1)) 129 pc = fl σ 129 pc := by rw [fl_sfn _ _ _ _ (by decide), fl_se]
    refine ⟨by rw [e]; exact ⟨a1, a2⟩, ?_, by rw [List.length_append]; simp; omega, ?_⟩
    · rw [fl_sfs, List.length_append]; simp
    · rw [e]
      refine (a5.mono (fun i q _ h2 _ h3 => ?_)).app ⟨?_, trivial⟩
      · rw [el_sf, el_se, if_neg (by omega)]; exact h3
      · have z : (0 : Int) + oas.length = oas.length := by omega
        show el (sf (se σ (fl σ 129 pc) oas.length o) 130 pc (oas.length + 1)) (fl σ 129 pc) (0 + oas.length) = o
        rw [el_sf, z, el_ses]
/-- the array of the piece is written -/
theorem BDy.ar {X : Int → Prop} {π : Sh} {σ τ : St} {D P pc ar i o v : Int} {L : List Stq} {Kn : List Int} (h : BDy (fun x => X x ∨ x = ar) π σ τ D P L Kn) (h56 : 56 ≤ nn π) (hpc : 56 ≤ pc) : BDy (fun x => X x ∨ x = ar) π (sf (se σ ar i o) 130 pc v) τ D P L Kn := by
  have h1 : BDy (fun x => X x ∨ x = ar) π (se σ ar i o) τ D P L Kn := h.own (ext.rf _) (fun f j _ _ => fl_se _ _ _ _ _ _) (fun a j _ hx => by rw [el_se, if_neg (fun q => hx (Or.inr q.1))]) (fun x hx => ⟨Or.inl hx, h.2.2.2.2.2.2.2.1 x hx⟩) h56
  exact h1.pw (PWr.sf _ 130 pc v (by decide))
theorem XEs.ar {X : Int → Prop} {π : Sh} {σ τ : St} {pc ar i o v : Int} {L : List Stq} {Kn : List Int} (h : XEs b (fun x => X x ∨ x = ar) π σ τ L Kn) (hpc : nn b.1 ≤ pc ∧ 56 ≤ pc) (har : nn b.1 ≤ ar ∧ 56 ≤ ar) : XEs b (fun x => X x ∨ x = ar) π (sf (se σ ar i o) 130 pc v) τ L Kn := by
  have e := h.2.2.2.2.2.2.1
  have kf : ∀ (f : Nat) (j : Int), ¬ (j = pc ∧ f = 130) → fl (sf (se σ ar i o) 130 pc v) f j = fl σ f j := fun f j hq => by rw [fl_sf, if_neg (by omega), fl_se]
  have ke : ∀ a j : Int, a ≠ ar → el (sf (se σ ar i o) 130 pc v) a j = el σ a j := fun a j hq => by rw [el_sf, el_se, if_neg (by omega)]
  exact h.gen ⟨e.1, fun f j a b c d g => by rw [kf f j (by omega)]; exact e.2.1 f j a b c d g, fun a j x y z => by rw [ke a j (by omega)]; exact e.2.2.1 a j x y z, by rw [kf 1 _ (by omega)]; exact e.2.2.2.1, by rw [kf 1 _ (by omega)]; exact e.2.2.2.2⟩ (ext.rf _) (fun g => kf g 1 (by omega)) (kf 144 44 (by omega)) (fun j => ke 2 j (by omega)) (h.2.2.2.2.2.1.ar h.1.1 hpc.2) h.2.2.2.2.2.2.2.2.2
/-- cells of the piece are left alone by reading -/
theorem PC.ef {X : Int → Prop} {π π' : Sh} {σ σ' τ : St} {L : List Stq} {Kn : List Int} {pc fC place a a2 c c2 : Int} {oas : List Int} (hc : CTX b dl) (hx : XEs b X π σ τ L Kn) (hp : PCf π σ pc fC place a a2 c c2) (ha : PCa π σ pc oas) (h56 : 56 ≤ pc) (he : EFt (bX b) (bY b) π σ π' σ') : PCf π' σ' pc fC place a a2 c c2 ∧ PCa π' σ' pc oas ∧ (∀ g : Nat, fl σ' g pc = fl σ g pc) ∧ ∀ ar j : Int, ob π ar 22 → el σ' ar j = el σ ar j := by
  have e := hx.x hc
  have bd := hx.2.2.2.2.2.1
  have ox := bd.2.1.1.1
  have oy := bd.2.2.1.1.1
  rw [e.1] at ox
  rw [e.2] at oy
  have ns : pc ≠ bX b ∧ pc ≠ bY b := ⟨fun w => by have t := ox.2.2; rw [← w, hp.1.2.2] at t; exact absurd t (by decide), fun w => by have t := oy.2.2; rw [← w, hp.1.2.2] at t; exact absurd t (by decide)⟩
  have hf : ∀ f : Nat, fl σ' f pc = fl σ f pc := fun f => he.2.1 f pc hp.1.2.1 (by omega) (by omega) (by omega) (by omega)
  have ar1 := bd.2.1.ar
  have ar2 := bd.2.2.1.ar
  rw [e.1] at ar1
  rw [e.2] at ar2
  have na : ∀ a, ob π a 22 → a ≠ fl σ 1 (bX b) ∧ a ≠ fl σ 1 (bY b) := fun a ho => by
    constructor
    · intro w
      rcases ar1 with q | q
      · rw [← w] at q; have := ho.1; omega
      · rw [← w] at q; have t := q.2.2; rw [ho.2.2] at t; exact absurd t (by decide)
    · intro w
      rcases ar2 with q | q
      · rw [← w] at q; have := ho.1; omega
      · rw [← w] at q; have t := q.2.2; rw [ho.2.2] at t; exact absurd t (by decide)
  have el' : ∀ ar j : Int, ob π ar 22 → el σ' ar j = el σ ar j := fun ar j ho => he.2.2.1 ar j ho.2.1 (na ar ho).1 (na ar ho).2
  obtain ⟨⟨q1, q2⟩, q3, q4, q5⟩ := ha
  refine ⟨hp.cg he.1 (fun g _ _ => hf g), ⟨⟨by rw [hf]; exact q1.ext he.1, by rw [hf, (he.1.2.2 _ q1.2.1).2]; exact q2⟩, by rw [hf]; exact q3, q4, q5.mono (fun i o _ _ _ h => by rw [hf, el' _ i q1]; exact h)⟩, hf, el'⟩
set_option maxHeartbeats 4000000 in
/-- a pattern that is wanted is read -/
theorem ws_arg {fC fR K Kd us d n pc place op e0 a a2 c c2 w Kb : Int} {r : List Int} {L0 : List Stq} {Kn0 kn : List Int} {π0 π : Sh} {σ0 τ0 σ τp τ : St} {l : List Ech} {T : Nat} (hc : CTX b dl) (h0 : XEs b Xo π0 σ0 τ0 L0 Kn0) (hB0 : PRE τ0 L0 Kn0) (hd : 0 ≤ d ∧ d + 2 ≤ 10 * op + 11) (hop : 0 ≤ op ∧ op ≤ 20) (h : WST N b dl Xo fC fR K Kd us d n pc place op e0 L0 Kn0 π0 σ0 τ0 π σ τ a a2 c c2 l kn T) (ht : TRN N τp τ d n) (h71 : el τ 71 (d + 1) = nuw (w :: r)) (hw : (w = 4 ∧ Kb = 5) ∨ (w = 3 ∧ Kb = 7)) (hr : ∀ x ∈ r, 1 ≤ x ∧ x ≤ 4) (hl : r.length ≤ 3) : ∃ τb, RLp N 1 τp τb ∧ XEs b (fun x => Xo x ∨ x = pc + 1) π σ τb (L0 ++ egs l) (Kn0 ++ kn) ∧ fl τb 13 0 = op ∧ FRx τb (d + 2) Kb ∧ el τb 73 (d + 2) = -1 ∧ PRE τb (L0 ++ egs l) (Kn0 ++ kn) ∧ lf τb = lf τ ∧ fl τb 16 0 = fl τ 16 0 ∧ (∀ a i : Int, 84 ≤ a → el τb a i = el τ a i) ∧ (el τb 74 (d + 1) = 6 ∧ el τb 72 (d + 1) = 1 ∧ el τb 73 (d + 1) = n ∧ el τb 71 (d + 1) = nuw r) ∧ (el τb 74 d = Kd ∧ el τb 72 d = 1 ∧ el τb 73 d = n) ∧ RDr n d τ0 τb := by
  obtain ⟨a1, a2', a3, a4, a5, a6, a7, a8, a9, a10, a11, a12, a13, a14, a15, b1, b2, b3, b4, b5, b6, b7, b8⟩ := id h
  have d500 : d < 300 := by omega
  have turn := ht.1
  rw [rw33 ⟨by omega, by omega⟩ h71 (by omega) hr hl, if_neg (by omega), if_neg (by omega)] at turn
  obtain ⟨τ1, hτ1⟩ : ∃ τ1, τ1 = se (se τ 71 (d + 1) (nuw r)) 72 (d + 1) 1 := ⟨_, rfl⟩
  rw [← hτ1] at turn
  have f1 : ∀ (g : Nat) (i : Int), fl τ1 g i = fl τ g i := fun g i => by rw [hτ1, fl_se, fl_se]
  have bg : r_begin N τ1 Kb (-1) 0 = some (nwF τ1 Kb (-1) 0) := r_begin' (by rw [f1, a6.1]; exact ⟨by omega, by omega⟩)
  have turn' : rdK N 6 τp (d + 1) = some (nwF τ1 Kb (-1) 0) := by
    rcases hw with ⟨q, q2⟩ | ⟨q, q2⟩
    · rw [turn, if_neg (by omega), ← q2, bg]
    · rw [turn, if_pos q, ← q2, bg]
  have g41 : fl τ1 41 0 = d + 2 := by rw [f1]; exact a6.1
  obtain ⟨τb, hτb⟩ : ∃ τb, τb = nwF τ1 Kb (-1) 0 := ⟨_, rfl⟩
  rw [← hτb] at turn'
  have nv := nwF_v τ1 Kb (-1) 0
  rw [g41, ← hτb] at nv
  have fb : ∀ g : Nat, g ≠ 41 → fl τb g 0 = fl τ g 0 := fun g hg => by rw [hτb, nwF_fl _ _ _ _ _ _ hg, f1]
  have eb : ∀ a i : Int, ¬ (71 ≤ a ∧ a ≤ 74 ∧ (i = d + 1 ∨ i = d + 2)) → el τb a i = el τ a i := fun a i hq => by
    rw [hτb, nwF_el _ _ _ _ _ _ (by omega), hτ1, el_se, if_neg (by omega), el_se, if_neg (by omega)]
  have ebw : el τb 74 (d + 1) = 6 ∧ el τb 72 (d + 1) = 1 ∧ el τb 73 (d + 1) = n ∧ el τb 71 (d + 1) = nuw r := by
    rw [hτb, nwF_el _ _ _ _ _ _ (by omega), nwF_el _ _ _ _ _ _ (by omega), nwF_el _ _ _ _ _ _ (by omega), nwF_el _ _ _ _ _ _ (by omega), hτ1]
    refine ⟨by rw [el_sen _ _ _ _ (by decide), el_sen _ _ _ _ (by decide)]; exact a6.2.1, by rw [el_ses], by rw [el_sen _ _ _ _ (by decide), el_sen _ _ _ _ (by decide)]; exact a6.2.2.2, by rw [el_sen _ _ _ _ (by decide), el_ses]⟩
  have rdb : RDr (n + 1) (d + 1) τ τb := by
    rw [hτb]
    refine nwF_rd ?_ _ _ _ (by omega)
    rw [hτ1]
    exact ((RDr.rf _ _ τ).sp 71 (d + 1) _ (by omega) (Int.le_refl _)).sp 72 (d + 1) 1 (by omega) (Int.le_refl _)
  have v16 := h0.2.2.2.2.2.2.2.2.1
  have lfb : lf τb = lf τ := by unfold lf; rw [fb 1 (by decide), fb 4 (by decide)]
  refine ⟨τb, RLp.one (by rw [ht.2.1]; omega) ⟨by omega, by omega⟩ ht.2.2.1 ⟨ht.2.2.2, by omega, by omega⟩ turn', a1.rt hc rdb (by omega) (by omega) (by rw [fb 16 (by decide)]; exact a1.2.2.2.2.2.2.2.2.1) (fun g hg => fb g (by omega)), by rw [fb 13 (by decide)]; exact a8, ⟨?_, nv.1, nv.2.2.1⟩, nv.2.1, ?_, lfb, fb 16 (by decide), fun a i ha => eb a i (by omega), ebw, ⟨by rw [eb 74 d (by omega)]; exact a7.1, by rw [eb 72 d (by omega)]; exact a7.2.1, by rw [eb 73 d (by omega)]; exact a7.2.2⟩, a5.tr rdb (by omega) (by omega)⟩
  · rw [hτb, nwF_41, g41]
  · unfold PRE at hB0 ⊢
    rw [lfb, fb 16 (by decide), List.length_append, List.length_append]
    push_cast
    exact ⟨by omega, by omega, by omega⟩
set_option maxHeartbeats 4000000 in
/-- a pattern that is wanted, and given to the piece -/
theorem ws_pat {fC fR K Kd us d n pc place op e0 a a2 c c2 : Int} {r : List Int} {L0 : List Stq} {Kn0 kn : List Int} {π0 π : Sh} {σ0 τ0 σ τp τ : St} {l : List Ech} {T : Nat} (hN : 30000001 ≤ N) (hc : CTX b dl) (h0 : XEs b Xo π0 σ0 τ0 L0 Kn0) (hB0 : PRE τ0 L0 Kn0) (hd : 0 ≤ d ∧ d + 2 ≤ 10 * op + 11) (hop : fl τ0 13 0 = op) (h : WST N b dl Xo fC fR K Kd us d n pc place op e0 L0 Kn0 π0 σ0 τ0 π σ τ a a2 c c2 l kn T) (ht : TRN N τp τ d n) (h71 : el τ 71 (d + 1) = nuw (4 :: r)) (hr : ∀ x ∈ r, 1 ≤ x ∧ x ≤ 4) (hl : r.length ≤ 3) (hll : l.length ≤ 2) (hA : ARH N b dl 5 1 0 11 rA op) : ∃ π' σ' o σ'' τp' t, rA π σ = some (π', σ', o) ∧ Pc_give N π' σ' pc o = some σ'' ∧ ob π' pc 6 ∧ RLp N t τp τp' ∧ ((fl σ'' 182 1 ≠ 0 ∧ i32 (fl σ'' 182 1) ∧ EFt (bX b) (bY b) π0 σ0 π' σ'' ∧ RDr n d τ0 τp' ∧ EXf b Xo L0 Kn0 0 π0 σ0 τ0 π' σ'' τp' (T + t)) ∨ ∃ x kn' τi, eO x = some o ∧ WST N b dl Xo fC fR K Kd us d n pc place op e0 L0 Kn0 π0 σ0 τ0 π' σ'' τi a a2 c c2 (l ++ [x]) kn' (T + t) ∧ TRN N τp' τi d n ∧ el τi 71 (d + 1) = nuw r ∧ fl σ'' 182 1 = 0) := by
  have opb := h0.2.2.2.1
  obtain ⟨τb, t1, t2, t3, t4, t5, t6, t7, t8, t9, t10, t11, t12⟩ := ws_arg (Kb := 5) hc h0 hB0 hd (by omega) h ht h71 (Or.inl ⟨rfl, rfl⟩) hr hl
  obtain ⟨a1, a2', a3, a4, a5, a6, a7, a8, a9, a10, a11, a12, a13, a14, a15, b1, b2, b3, b4, b5, b6, b7, b8⟩ := id h
  obtain ⟨π', σ', τ2, o, t, q1, q2, q3, q4, q5⟩ := hA (fun x => Xo x ∨ x = pc + 1) π σ τb (L0 ++ egs l) (Kn0 ++ kn) (d + 2) t2 t3 t4 ⟨by omega, by omega⟩ t5 t6
  have nb := h0.2.2.2.2.2.2.1.1.1
  have n56 := h0.1.1
  have lx := a1.lt hc
  have l1 := a1.2.1.lf
  have l0 := h0.2.1.lf
  have v16 := h0.2.2.2.2.2.2.2.2.1
  have bv : 0 ≤ bV b := by obtain ⟨-, -, -, -, -, -, -, -, -, q⟩ := hc; exact q
  have d500 : d < 300 := by omega
  have pb : 56 ≤ pc ∧ nn b.1 ≤ pc := by omega
  obtain ⟨p1, p2, p3, p4⟩ := PC.ef hc a1 a2'.1 a2'.2.1 pb.1 q3
  have eol : (eou l).length = l.length := by
    have := eopz_1 a14
    rw [← this, List.length_map, eopz_len]
  obtain ⟨g1, g2⟩ := pc_give (N := N) (o := o) p1.1 p2 (by omega)
  have ar : fl σ' 129 pc = pc + 1 := by rw [p3]; exact a2'.2.2.1
  rw [ar] at g1 g2
  obtain ⟨σ'', hσ''⟩ : ∃ σ'', σ'' = sf (se σ' (pc + 1) ((eou l).length : Int) o) 130 pc (((eou l).length : Int) + 1) := ⟨_, rfl⟩
  rw [← hσ''] at g1 g2
  have kf : ∀ (f : Nat) (j : Int), ¬ (j = pc ∧ f = 130) → fl σ'' f j = fl σ' f j := fun f j hq => by rw [hσ'', fl_sf, if_neg (by omega), fl_se]
  have ke : ∀ a j : Int, a ≠ pc + 1 → el σ'' a j = el σ' a j := fun a j hq => by rw [hσ'', el_sf, el_se, if_neg (by omega)]
  have n12 := q3.1.1
  have b3' := hc.2.2.1
  have k1 : fl σ'' 1 (bX b) = fl σ' 1 (bX b) ∧ fl σ'' 1 (bY b) = fl σ' 1 (bY b) := ⟨kf 1 _ (by omega), kf 1 _ (by omega)⟩
  have e0'' : EFt (bX b) (bY b) π0 σ0 π' σ'' := (a4.tr q3).own ⟨ext.rf _, fun f i hi => kf f i (by omega), fun a j ha => ke a j (by omega)⟩ k1
  have rl : RLp N (1 + t) τp τ2 := t1.tr q2
  have rd2 : RDr n d τ0 τ2 := t12.tr q4 (by omega) (by omega)
  rcases q5 with f | f
  · obtain ⟨f1, f2, f3⟩ := f
    rw [t3, t7, List.length_append, List.length_append] at f1
    rw [t3, t7] at f2
    rw [t7] at f3
    have fz := f1.f
    have lt' := f1.lt (q3.x hc a1)
    have cx : cpc π' σ'' (bX b) = cpc π' σ' (bX b) := cpc_eq k1.1 (ext.rf _) lt'.1
    have cy : cpc π' σ'' (bY b) = cpc π' σ' (bY b) := cpc_eq k1.2 (ext.rf _) lt'.2
    have fq : XQ b (fun x => Xo x ∨ x = pc + 1) π' σ'' τ2 (((L0.length + (egs l).length : Nat) : Int) + 2 * lf τ + 4 * (20 - op) + 0) (((Kn0.length + kn.length : Nat) : Int) + lf τ) := by
      obtain ⟨y1, ⟨τt, y2⟩, y3, y4, L, Kn, y5, y6, y7⟩ := f1
      refine ⟨y1, ⟨τt, y2.cg (fun g _ => kf g 1 (by omega)) (fun j => ke 2 j (by omega)) (fun _ _ => rfl) (fun _ => rfl)⟩, ⟨by rw [kf 182 1 (by omega)]; exact y3.1, by rw [kf 183 1 (by omega)]; exact y3.2.1, y3.2.2⟩, by rw [kf 144 44 (by omega)]; exact y4, L, Kn, by rw [hσ'']; exact y5.ar y1.1 pb.1, y6, y7⟩
    refine ⟨π', σ', o, σ'', τ2, 1 + t, q1, g1, p1.1, rl, Or.inl ⟨by rw [kf 182 1 (by omega)]; exact fz.1, by rw [kf 182 1 (by omega)]; exact fz.2, e0'', rd2, (fq.sub (X' := Xo) (fun x w => Or.inl w)).mono (by push_cast; omega) (by push_cast; omega), ⟨?_, ?_⟩, by push_cast; omega⟩⟩
    · have := f2.1; omega
    · have := f2.2; omega
  · obtain ⟨seg, kn2, cn, w, z, k, g1', ⟨m2, m3, m4⟩, m5, m6, m7, m8, ⟨⟨y1, y2⟩, ⟨y3, y4⟩, y5, y6, y7, y8⟩, ⟨m9, m10⟩, m11⟩ := f
    rw [t7] at y2 y4 y5 y6 y7 y8 m9 m10 m11
    rw [t3] at y2 y4 m4
    rw [t8] at y8 m5 m7
    have x3 : XEs b (fun x => Xo x ∨ x = pc + 1) π' σ'' τ2 ((L0 ++ egs l) ++ seg) ((Kn0 ++ kn) ++ kn2) := by rw [hσ'']; exact g1'.ar ⟨pb.2, pb.1⟩ ⟨by omega, by omega⟩
    have lx' := g1'.lt hc
    have l2 := g1'.2.1.lf
    have cx : cpc π' σ'' (bX b) = cpc π' σ' (bX b) := cpc_eq k1.1 (ext.rf _) lx'.2.1.1
    have cy : cpc π' σ'' (bY b) = cpc π' σ' (bY b) := cpc_eq k1.2 (ext.rf _) lx'.2.1.2
    unfold PRE at hB0
    obtain ⟨x, hx⟩ : ∃ x : Ech, x = (cn, some o, [], seg, (fl τ 16 0, fl τ2 16 0), (w, z), k) := ⟨_, rfl⟩
    have xC : eC x = cn := by rw [hx]; rfl
    have xO : eO x = some o := by rw [hx]; rfl
    have xA : eA x = [] := by rw [hx]; rfl
    have xS : eS x = seg := by rw [hx]; rfl
    have xL : eL x = fl τ 16 0 := by rw [hx]; rfl
    have xH : eH x = fl τ2 16 0 := by rw [hx]; rfl
    have xW : eW x = w := by rw [hx]; rfl
    have xZ : eZ x = z := by rw [hx]; rfl
    have xK : eK x = k := by rw [hx]; rfl
    have eg : egs (l ++ [x]) = egs l ++ seg := by
      rw [egs_app]
      show egs l ++ (eS x ++ []) = _
      rw [xS, List.append_nil]
    have eo : eou (l ++ [x]) = eou l ++ [o] := by
      have e1 : ∀ y ∈ l ++ [x], eO y ≠ none := fun y hy => by
        rcases List.mem_append.1 hy with q | q
        · exact a14 y q
        · have : y = x := by simpa using q
          rw [this, xO]; simp
      have eop' : eop x = o := by unfold eop; rw [xO]
      rw [← eopz_1 e1, ← eopz_1 a14, eopz_app, List.map_append]
      show _ ++ [eop x] = _
      rw [eop']
    have ek : ekk (l ++ [x]) = ekk l + k + 2 := by rw [ekk_app, xK]
    have tb : ∀ a i : Int, 84 ≤ a → a ≤ 94 → i < fl τ 16 0 → el τ2 a i = el τ a i := fun a i x1 x2 x3 => by rw [q4.2.2.1 a i x1 x2 (by omega), t9 a i x1]
    have mem := a11.le.2
    have pre : (Kn0 ++ kn) <+: (Kn0 ++ kn) ++ kn2 := List.prefix_append _ _
    have aa : (Kn0 ++ kn) ++ kn2 = Kn0 ++ (kn ++ kn2) := List.append_assoc _ _ _
    have la : (L0 ++ egs l) ++ seg = L0 ++ egs (l ++ [x]) := by rw [eg, List.append_assoc]
    have lj : ((L0 ++ egs l).length : Int) = L0.length + (egs l).length := by rw [List.length_append]; omega
    have hs2 : ECs N b τ2 (Kn0 ++ (kn ++ kn2)) L0.length (n + 1) (fl τ 16 0) l := by
      rw [← aa]
      exact a11.cg pre (fun y hy a i x1 x2 x3 x4 _ => tb a i (by omega) x2 (by have := mem y hy; omega))
    have hn2 : ECn τ2 (n + 1) (fl τ 16 0) n l := ECn.mv a11 a12 ⟨tb 87 n (by omega) (by omega) a9.2, tb 86 n (by omega) (by omega) a9.2⟩ (Int.le_refl _) (fun y hy => by
      have := mem y hy
      exact ⟨tb 94 _ (by omega) (by omega) (by omega), tb 85 _ (by omega) (by omega) (by omega)⟩)
    have ex1 : EC1 N b τ2 (Kn0 ++ (kn ++ kn2)) (L0.length + (egs l).length) x := by
      refine ⟨by rw [xL, xH, xC]; exact ⟨⟨by omega, by omega⟩, m5⟩, by rw [xL, xH]; exact ⟨by omega, by omega⟩, by rw [xC]; exact ⟨m6.1.1, m6.1.2, m6.2.2⟩, fun q hq => by rw [xA] at hq; exact absurd hq (by simp), Or.inl ⟨o, xO, xA, by rw [xC]; exact m6.2.1, ?_⟩⟩
      rw [xL, xH, xC, xS, xW, xZ, xK, ← aa, ← lj]
      exact m7
    have nr : ∀ y, y ∈ l ∨ y = x → ¬ (eL y ≤ n ∧ n < eH y) := fun y hy => by
      rcases hy with q | q
      · have := mem y q; omega
      · rw [q, xL]; have := a9.2; omega
    obtain ⟨u1, u2⟩ := ECn.app (hi' := fl τ2 16 0) hs2 hn2 ex1 xC nr (by rw [xL]; exact Int.le_refl _) (by rw [xH]; exact Int.le_refl _)
    obtain ⟨τi, hτi⟩ : ∃ τi, τi = se (apN τ2 n cn) 72 (d + 1) 0 := ⟨_, rfl⟩
    have h86 : el τ2 87 n = -1 ∨ (inb (el τ2 86 n) 32768 ∧ n + 1 ≤ el τ2 86 n) := by
      by_cases hne : l = []
      · left; have w := hn2.1; rw [hne] at w; exact w
      · have w := ECn.h hs2 hn2 ⟨by omega, by omega⟩ hne
        right; exact ⟨w.1, w.2.2.1⟩
    have h87 : i32 (el τ2 87 n) := by
      by_cases hne : l = []
      · have w := hn2.1; rw [hne] at w; have w' : el τ2 87 n = -1 := w; rw [w']; decide
      · exact (ECn.h hs2 hn2 ⟨by omega, by omega⟩ hne).2.1
    have apc : r_append N τ2 n cn = some (apN τ2 n cn) := r_append' ⟨by omega, by omega⟩ ⟨by omega, by omega⟩ (by rcases h86 with q | q; exact Or.inl q; exact Or.inr q.1) h87
    have fd : ∀ a : Int, 71 ≤ a → a ≤ 74 → ∀ i, i = d ∨ i = d + 1 → el τ2 a i = el τb a i := fun a z1 z2 i hi => q4.2.2.2 a i z1 z2 (by omega)
    have trn : TRN N τ2 τi d n := by
      refine ⟨?_, by rw [m2], g1'.2.2.1.2, by rw [fd 74 (by omega) (by omega) _ (Or.inr rfl)]; exact t10.1⟩
      show r_readWants N τ2 (d + 1) = _
      rw [r_readWants, grd_t (by exact ⟨by omega, by omega⟩)]
      simp only [bnd]
      rw [fd 72 (by omega) (by omega) _ (Or.inr rfl), t10.2.1, grd_t (by decide), if_pos rfl, fd 73 (by omega) (by omega) _ (Or.inr rfl), t10.2.2.1, m3, apc, Option.bind_some, hτi]
    have rdi : RDr n d τ2 τi := by
      rw [hτi]
      refine (apN_rd (RDr.rf _ _ _) ⟨Int.le_refl _, by omega, ?_⟩).sp 72 (d + 1) 0 (by omega) (by omega)
      rcases h86 with q | q
      · exact Or.inl q
      · exact Or.inr (by omega)
    have fi : ∀ g : Nat, fl τi g 0 = fl τ2 g 0 := fun g => by rw [hτi, fl_se, apN_fl]
    have ei : ∀ a i : Int, ¬ (a = 72 ∧ i = d + 1) → el τi a i = el (apN τ2 n cn) a i := fun a i hq => by rw [hτi, el_se, if_neg hq]
    have ein : ∀ a : Int, 88 ≤ a → a ≤ 94 → el τi a n = el τ a n := fun a z1 z2 => by
      rw [ei a n (by omega), apN_el _ _ _ _ _ (by omega), tb a n (by omega) z2 a9.2]
    have eif : ∀ a i : Int, 71 ≤ a → a ≤ 74 → (i = d ∨ i = d + 1) → ¬ (a = 72 ∧ i = d + 1) → el τi a i = el τb a i := fun a i z1 z2 z3 z4 => by
      rw [ei a i z4, apN_el _ _ _ _ _ (by omega), fd a z1 z2 i z3]
    have lfi : lf τi = lf τ2 := by unfold lf; rw [fi, fi]
    have xi : XEs b (fun x => Xo x ∨ x = pc + 1) π' σ'' τi (L0 ++ egs (l ++ [x])) (Kn0 ++ (kn ++ kn2)) := by
      rw [← la, ← aa]
      exact x3.rt hc rdi (by omega) hd.1 (by rw [fi]; omega) (fun g _ => fi g)
    obtain ⟨pf1, pf2, pf3, pf4, pf5, pf6, pf7⟩ := p1
    refine ⟨π', σ', o, σ'', τ2, 1 + t, q1, g1, pf1, rl, Or.inr ⟨x, kn ++ kn2, τi, xO, ⟨xi, ⟨⟨pf1, ?_, ?_, ?_, ?_, ?_, ?_⟩, by rw [eo]; exact g2, ?_, ?_, ?_⟩, ⟨a3.1, by omega⟩, e0'', rd2.tr rdi (Int.le_refl _) (Int.le_refl _), ⟨by rw [fi, m2], ?_, ?_, ?_⟩, ⟨?_, ?_, ?_⟩, by rw [fi, m4], ⟨a9.1, by rw [fi]; omega⟩, ⟨?_, ?_⟩, ?_, ?_, ?_, ?_, ⟨by simp; omega, a15.2⟩, ⟨?_, ?_, ?_, ?_, ?_, ?_, ?_, ?_⟩⟩, trn, ?_, ?_⟩⟩
    · rw [kf 120 pc (by omega)]; exact pf2
    · rw [kf 121 pc (by omega)]; exact pf3
    · rw [kf 122 pc (by omega)]; exact pf4
    · rw [kf 123 pc (by omega)]; exact pf5
    · rw [kf 124 pc (by omega)]; exact pf6
    · rw [kf 125 pc (by omega)]; exact pf7
    · rw [kf 129 pc (by omega)]; exact ar
    · rw [kf 127 pc (by omega), p3]; exact a2'.2.2.2.1
    · rw [kf 128 pc (by omega), p3]; exact a2'.2.2.2.2
    · rw [eif 74 _ (by omega) (by omega) (Or.inr rfl) (by omega)]; exact t10.1
    · rw [hτi, el_ses]
    · rw [eif 73 _ (by omega) (by omega) (Or.inr rfl) (by omega)]; exact t10.2.2.1
    · rw [eif 74 _ (by omega) (by omega) (Or.inl rfl) (by omega)]; exact t11.1
    · rw [eif 72 _ (by omega) (by omega) (Or.inl rfl) (by omega)]; exact t11.2.1
    · rw [eif 73 _ (by omega) (by omega) (Or.inl rfl) (by omega)]; exact t11.2.2
    · obtain ⟨⟨z1, z2, z3, z4, z5, z6⟩, z7⟩ := a10
      exact ⟨by rw [ein 93 (by omega) (by omega)]; exact z1, by rw [ein 92 (by omega) (by omega)]; exact z2, by rw [ein 91 (by omega) (by omega)]; exact z3, by rw [ein 90 (by omega) (by omega)]; exact z4, by rw [ein 89 (by omega) (by omega)]; exact z5, by rw [ein 88 (by omega) (by omega)]; exact z6⟩
    · rw [ein 94 (by omega) (by omega)]; exact a10.2
    · rw [fi]; exact u1.cg (List.prefix_refl _) (fun y _ a i z1 z2 _ _ _ => ei a i (by omega))
    · rw [fi]; exact ECn.mv u1 u2 ⟨ei 87 n (by omega), ei 86 n (by omega)⟩ (Int.le_refl _) (fun y _ => ⟨ei 94 _ (by omega), ei 85 _ (by omega)⟩)
    · intro y hy
      rw [eg] at hy
      rcases List.mem_append.1 hy with q | q
      · exact a13 y q
      · exact m8 y q
    · intro y hy
      rcases List.mem_append.1 hy with q | q
      · exact a14 y q
      · have : y = x := by simpa using q
        rw [this, xO]; simp
    · rw [lfi]; exact EBd.app (by rw [xW]; omega) (b1.mono (by omega) (by omega)) (by rw [xZ]; omega) (by omega)
    · rw [lfi, ek]; simp only [List.length_append, List.length_singleton]; push_cast; omega
    · rw [lfi, fi]; omega
    · rw [lfi, eg, List.length_append]; push_cast; omega
    · rw [lfi, List.length_append]; push_cast; omega
    · rw [lfi]; push_cast; omega
    · rw [lfi]; have := m11.1; omega
    · rw [lfi, cx, cy]; have := m11.2; omega
    · rw [eif 71 _ (by omega) (by omega) (Or.inr rfl) (by omega)]; exact t10.2.2.2
    · rw [kf 182 1 (by omega)]; exact g1'.2.2.1.1
end WD9
