/-! a function with what it wants: numbers, patterns -/
section WC9
variable {N : Nat} {b : Bse} {Xo : Int → Prop} {dl : List (Int × Int)}
/-- fewer cells are kept apart -/
theorem BDy.sub {X X' : Int → Prop} {π : Sh} {σ τ : St} {D P : Int} {L : List Stq} {Kn : List Int} (h : BDy X π σ τ D P L Kn) (hx : ∀ x, X' x → X x) (h56 : 56 ≤ nn π) : BDy X' π σ τ D P L Kn := h.own (ext.rf _) (fun _ _ _ _ => rfl) (fun _ _ _ _ => rfl) (fun x w => ⟨Or.inl (hx x w), h.2.2.2.2.2.2.2.1 x (hx x w)⟩) h56
theorem XQ.sub {X X' : Int → Prop} {π : Sh} {σ τ : St} {l k : Int} (h : XQ b X π σ τ l k) (hx : ∀ x, X' x → X x) : XQ b X' π σ τ l k := by
  obtain ⟨a1, a2, a3, a4, L, Kn, a5, a6, a7⟩ := h
  exact ⟨a1, a2, a3, a4, L, Kn, a5.sub hx a1.1, a6, a7⟩
theorem XEs.sub {X X' : Int → Prop} {π : Sh} {σ τ : St} {L : List Stq} {Kn : List Int} (h : XEs b X π σ τ L Kn) (hx : ∀ x, X' x → X x) : XEs b X' π σ τ L Kn := by
  obtain ⟨h1, h2, h3, h4, h5, h6, h7, h8, h9, h10⟩ := h
  exact ⟨h1, h2, h3, h4, h5, h6.sub hx h1.1, h7, h8, h9, fun x w => h10 x (hx x w)⟩
/-- a fault is told while it is read -/
theorem ws_flt {fC fR K Kd us d n pc place op e0 a a2 c c2 e v : Int} {L0 : List Stq} {Kn0 kn : List Int} {π0 π : Sh} {σ0 τ0 σ τ : St} {l : List Ech} {T : Nat} (hc : CTX b dl) (h0 : XEs b Xo π0 σ0 τ0 L0 Kn0) (hop : fl τ0 13 0 = op) (hd : 0 ≤ d) (h : WST N b dl Xo fC fR K Kd us d n pc place op e0 L0 Kn0 π0 σ0 τ0 π σ τ a a2 c c2 l kn T) (he : 1 ≤ e ∧ e ≤ 4) : EFt (bX b) (bY b) π0 σ0 π (sf (sf σ 182 1 e) 183 1 (fl τ 4 0)) ∧ RDr n d τ0 (sf (sf (se τ 71 (d + 1) v) 11 0 e) 12 0 (fl τ 4 0)) ∧ EXf b Xo L0 Kn0 0 π0 σ0 τ0 π (sf (sf σ 182 1 e) 183 1 (fl τ 4 0)) (sf (sf (se τ 71 (d + 1) v) 11 0 e) 12 0 (fl τ 4 0)) (T + 1) := by
  obtain ⟨a1, a2', a3, a4, a5, a6, a7, a8, a9, a10, a11, a12, a13, a14, a15, b1, b2, b3, b4, b5, b6, b7, b8⟩ := h
  have l1 := a1.2.1.lf
  have opb := h0.2.2.2.1
  have lx := a1.lt hc
  have x1 : XEs b (fun x => Xo x ∨ x = pc + 1) π σ (se τ 71 (d + 1) v) (L0 ++ egs l) (Kn0 ++ kn) := a1.rt hc ((RDr.rf (bV b) 0 τ).sp 71 (d + 1) v (by omega) (by omega)) (Int.le_refl _) (Int.le_refl _) a1.2.2.2.2.2.2.2.2.1 (fun g _ => rfl)
  have q := (x1.q (f := e) (p := fl τ 4 0) he).sub (X' := Xo) (fun x w => Or.inl w)
  have er : ERf σ (sf (sf σ 182 1 e) 183 1 (fl τ 4 0)) := (ERf.sf _ 182 1 _ (by omega)).tr (ERf.sf _ 183 1 _ (by omega))
  have rm : RmE (bX b) (bY b) π0 σ0 π σ (12 * (lf τ0 - lf τ) - 10) (150 * (lf τ0 - lf τ) - 136) := ⟨by omega, by omega⟩
  refine ⟨a4.tr (EFt.rd er ⟨lx.1.1, lx.1.2.2.1⟩), ((a5.sp 71 (d + 1) v (by omega) (by omega)).sf 11 e (by omega)).sf 12 _ (by omega), q.mono (by rw [List.length_append]; push_cast; omega) (by rw [List.length_append]; push_cast; omega), (rm.tr (RmE.er (A := 0) (B := 0) er ⟨lx.1.1, lx.1.2.2.1⟩ lx.2.1 ⟨by omega, by omega⟩)).mono (by omega) (by omega), by push_cast; omega⟩
set_option maxHeartbeats 4000000 in
/-- a number is read -/
theorem ws_num {fC fR K Kd us d n pc place op e0 a a2 c c2 w x2 g1 : Int} {F1 F2 : Nat} {r : List Int} {L0 : List Stq} {Kn0 : List Int} {π0 π : Sh} {σ0 τ0 σ τp τ : St} {T : Nat} {ok : Int → Int → Prop} {cR : Option St} (hN : 30000001 ≤ N) (hc : CTX b dl) (h0 : XEs b Xo π0 σ0 τ0 L0 Kn0) (hop : fl τ0 13 0 = op) (hd : 0 ≤ d ∧ d < 500) (h : WST N b dl Xo fC fR K Kd us d n pc place op e0 L0 Kn0 π0 σ0 τ0 π σ τ a a2 c c2 [] [] T) (ht : TRN N τp τ d n) (h71 : el τ 71 (d + 1) = nuw (w :: r)) (hw : w = 1 ∨ w = 2) (hr : ∀ x ∈ r, 1 ≤ x ∧ x ≤ 4) (hl : r.length ≤ 3) (hF : (g1 = 91 ∧ F1 = 122 ∧ F2 = 123) ∨ (g1 = 89 ∧ F1 = 124 ∧ F2 = 125)) (hb : NBo N b (fun x => Xo x ∨ x = pc + 1) L0 Kn0 pc n g1 F1 F2 π σ (se τ 71 (d + 1) (nuw r)) cR (if w = 1 then r_readFraction N (se τ 71 (d + 1) (nuw r)) n else r_readCount N (se τ 71 (d + 1) (nuw r)) n) ok) : ∃ σ' τ', cR = some σ' ∧ RLp N 1 τp τ' ∧ ((fl σ' 182 1 ≠ 0 ∧ i32 (fl σ' 182 1) ∧ EFt (bX b) (bY b) π0 σ0 π σ' ∧ RDr n d τ0 τ' ∧ EXf b Xo L0 Kn0 0 π0 σ0 τ0 π σ' τ' (T + 1)) ∨ ∃ u v, ok u v ∧ WST N b dl Xo fC fR K Kd us d n pc place op (e0 - 1) L0 Kn0 π0 σ0 τ0 π σ' τ' (if g1 = 91 then u else a) (if g1 = 91 then v else a2) (if g1 = 91 then c else u) (if g1 = 91 then c2 else v) [] [] (T + 1) ∧ el τ' 71 (d + 1) = nuw r) := by
  obtain ⟨a1, a2', a3, a4, a5, a6, a7, a8, a9, a10, a11, a12, a13, a14, a15, b1, b2, b3, b4, b5, b6, b7, b8⟩ := id h
  have turn := ht.1
  rw [rw33 ⟨by omega, by omega⟩ h71 (by omega) hr hl] at turn
  have turn' : rdK N 6 τp (d + 1) = if w = 1 then r_readFraction N (se τ 71 (d + 1) (nuw r)) n else r_readCount N (se τ 71 (d + 1) (nuw r)) n := by
    rcases hw with q | q
    · rw [turn, if_pos q, if_pos q]
    · rw [turn, if_neg (by omega), if_pos q, if_neg (by omega)]
  have h41 : fl τp 41 0 = (d + 1) + 1 := by rw [ht.2.1]; omega
  rcases hb with ⟨e, e1, e2, e3⟩ | ⟨u, v, σ', τ', e1, e2, e3, e4, e5, e6, e7, e8, e9, e10, e11⟩
  · rw [e3] at turn'
    have z4 : fl (se τ 71 (d + 1) (nuw r)) 4 0 = fl τ 4 0 := fl_se _ _ _ _ _ _
    rw [z4] at e2 turn'
    obtain ⟨y1, y2, y3⟩ := ws_flt (e := e) (v := nuw r) hc h0 hop hd.1 h (by omega)
    refine ⟨_, _, e2, RLp.one h41 ⟨by omega, by omega⟩ ht.2.2.1 ⟨ht.2.2.2, by omega, by omega⟩ turn', Or.inl ⟨?_, ?_, y1, y2, y3⟩⟩
    · rw [fl_sfn _ _ _ _ (by decide), fl_sfs]; omega
    · rw [fl_sfn _ _ _ _ (by decide), fl_sfs]; exact ⟨by omega, by omega⟩
  · rw [e2] at turn'
    have lx := a1.lt hc
    have nb := h0.2.2.2.2.2.2.1.1.1
    have n56 := h0.1.1
    have l71 : lf (se τ 71 (d + 1) (nuw r)) = lf τ := rfl
    rw [l71] at e11
    have fτ : ∀ f : Nat, ¬ (3 ≤ f ∧ f ≤ 10) → fl τ' f 0 = fl τ f 0 := fun f hf => e9 f hf
    have eτ : ∀ a' i : Int, ¬ (i = n ∧ (a' = g1 ∨ a' = g1 - 1)) → ¬ (a' = 71 ∧ i = d + 1) → el τ' a' i = el τ a' i := fun a' i z1 z2 => by rw [e10 a' i z1, el_se, if_neg z2]
    have gr : 88 ≤ g1 - 1 ∧ g1 ≤ 91 := by omega
    have lw := e4.2.1.lf
    have ll : lf τ' ≤ lf τ0 := by omega
    have kk : ∀ y, y = bX b ∨ y = bY b → fl σ' 1 y = fl σ 1 y := fun y hy => e6 1 y (by omega) (by omega)
    have cx : cpc π σ' (bX b) = cpc π σ (bX b) := cpc_eq (kk _ (Or.inl rfl)) (ext.rf _) lx.2.1.1
    have cy : cpc π σ' (bY b) = cpc π σ (bY b) := cpc_eq (kk _ (Or.inr rfl)) (ext.rf _) lx.2.1.2
    have rd' : RDr n d τ0 τ' := by
      have q : RDr (bV b) 0 b.2.2.1 τ' := e4.2.2.2.2.2.2.2.1
      refine ⟨fun f i z1 z2 z3 z4 z5 => ?_, fun a' j z1 z2 => by rw [eτ a' j (by omega) (by omega)]; exact a5.2.1 a' j z1 z2, fun a' j z1 z2 z3 => by rw [eτ a' j (by omega) (by omega)]; exact a5.2.2.1 a' j z1 z2 z3, fun a' j z1 z2 z3 => by rw [eτ a' j (by omega) (by omega)]; exact a5.2.2.2 a' j z1 z2 z3⟩
      rw [q.1 f i z1 z2 z3 z4 z5]
      exact (h0.2.2.2.2.2.2.2.1.1 f i z1 z2 z3 z4 z5).symm
    have ns : pc ≠ bX b ∧ pc ≠ bY b ∧ 56 ≤ pc := by have := hc.2.2.1; omega
    have e0' : EFt (bX b) (bY b) π0 σ0 π σ' := by
      have z1 : ERf σ σ' ∨ True := Or.inr trivial
      refine ⟨a4.1, fun f i q1 q2 q3 q4 q5 => ?_, fun a' j q1 q2 q3 => by rw [e7]; exact a4.2.2.1 a' j q1 q2 q3, by rw [kk _ (Or.inl rfl)]; exact a4.2.2.2.1, by rw [kk _ (Or.inr rfl)]; exact a4.2.2.2.2⟩
      rw [e6 f i (by omega) (by omega)]
      exact a4.2.1 f i q1 q2 q3 q4 q5
    have pf : ∀ g : Nat, g ≠ F1 → g ≠ F2 → fl σ' g pc = fl σ g pc := fun g z1 z2 => e6 g pc (by omega) (by omega)
    refine ⟨σ', τ', e1, RLp.one h41 ⟨by omega, by omega⟩ ht.2.2.1 ⟨ht.2.2.2, by omega, by omega⟩ turn', Or.inr ⟨u, v, e3, ⟨?_, ⟨?_, ?_, ?_, ?_, ?_⟩, a3, e0', rd', ⟨by rw [fτ 41 (by omega)]; exact a6.1, by rw [eτ 74 _ (by omega) (by omega)]; exact a6.2.1, by rw [eτ 72 _ (by omega) (by omega)]; exact a6.2.2.1, by rw [eτ 73 _ (by omega) (by omega)]; exact a6.2.2.2⟩, ⟨by rw [eτ 74 _ (by omega) (by omega)]; exact a7.1, by rw [eτ 72 _ (by omega) (by omega)]; exact a7.2.1, by rw [eτ 73 _ (by omega) (by omega)]; exact a7.2.2⟩, by rw [fτ 13 (by omega)]; exact a8, ⟨a9.1, by rw [fτ 16 (by omega)]; exact a9.2⟩, ?_, ?_, ⟨?_, Or.inl rfl⟩, a13, a14, ⟨a15.1, by omega⟩, ⟨?_, ?_, ?_, ?_, ?_, ?_, ?_, ?_⟩⟩, ?_⟩⟩
    · rw [show egs [] = ([] : List Stq) from rfl, List.append_nil, List.append_nil]; exact e4
    · obtain ⟨p1, p2, p3, p4, p5, p6, p7⟩ := a2'.1
      rcases hF with ⟨f1, f2, f3⟩ | ⟨f1, f2, f3⟩
      · rw [if_pos f1, if_pos f1, if_pos f1, if_pos f1]
        exact ⟨p1, by rw [pf 120 (by omega) (by omega)]; exact p2, by rw [pf 121 (by omega) (by omega)]; exact p3, by rw [← f2]; exact e5.1, by rw [← f3]; exact e5.2, by rw [pf 124 (by omega) (by omega)]; exact p6, by rw [pf 125 (by omega) (by omega)]; exact p7⟩
      · rw [if_neg (by omega), if_neg (by omega), if_neg (by omega), if_neg (by omega)]
        exact ⟨p1, by rw [pf 120 (by omega) (by omega)]; exact p2, by rw [pf 121 (by omega) (by omega)]; exact p3, by rw [pf 122 (by omega) (by omega)]; exact p4, by rw [pf 123 (by omega) (by omega)]; exact p5, by rw [← f2]; exact e5.1, by rw [← f3]; exact e5.2⟩
    · obtain ⟨q1, q2, q3, q4⟩ := a2'.2.1
      exact ⟨by rw [pf 129 (by omega) (by omega)]; exact q1, by rw [pf 130 (by omega) (by omega)]; exact q2, q3, trivial⟩
    · rw [pf 129 (by omega) (by omega)]; exact a2'.2.2.1
    · rw [pf 127 (by omega) (by omega)]; exact a2'.2.2.2.1
    · rw [pf 128 (by omega) (by omega)]; exact a2'.2.2.2.2
    · obtain ⟨⟨y1, y2, y3, y4, y5, y6⟩, y7⟩ := a10
      rcases hF with ⟨f1, f2, f3⟩ | ⟨f1, f2, f3⟩
      · rw [if_pos f1, if_pos f1, if_pos f1, if_pos f1]
        rw [f1] at e8
        exact ⟨⟨by rw [eτ 93 _ (by omega) (by omega)]; exact y1, by rw [eτ 92 _ (by omega) (by omega)]; exact y2, e8.1, e8.2, by rw [eτ 89 _ (by omega) (by omega)]; exact y5, by rw [eτ 88 _ (by omega) (by omega)]; exact y6⟩, by rw [eτ 94 _ (by omega) (by omega)]; exact y7⟩
      · rw [if_neg (by omega), if_neg (by omega), if_neg (by omega), if_neg (by omega)]
        rw [f1] at e8
        exact ⟨⟨by rw [eτ 93 _ (by omega) (by omega)]; exact y1, by rw [eτ 92 _ (by omega) (by omega)]; exact y2, by rw [eτ 91 _ (by omega) (by omega)]; exact y3, by rw [eτ 90 _ (by omega) (by omega)]; exact y4, e8.1, e8.2⟩, by rw [eτ 94 _ (by omega) (by omega)]; exact y7⟩
    · show n + 1 ≤ fl τ' 16 0
      rw [fτ 16 (by omega)]
      have := a9.2
      omega
    · rw [eτ 87 _ (by omega) (by omega)]; exact a12.1
    · exact b1.mono (by omega) (by omega)
    · omega
    · rw [fτ 16 (by omega)]; omega
    · omega
    · omega
    · push_cast; omega
    · omega
    · rw [cx, cy]; omega
    · rw [e10 71 _ (by omega), el_ses]
end WC9
