/-! a piece that is named: both -/
section PQ9
variable {N : Nat} {b : Bse} {Xo : Int → Prop} {dl : List (Int × Int)} {rA rF : Sh → St → Option (Sh × St × Int)}
/-- what is wanted is all read, and the frame below is done -/
theorem end_turns {τp τi : St} {d n Kd : Int} (ht : TRN N τp τi d n) (hd : 0 ≤ d ∧ d < 500) (h71 : el τi 71 (d + 1) = 0) (h41 : fl τi 41 0 = d + 2) (h11 : fl τi 11 0 = 0) (hK : Kd = 4 ∨ Kd = 9) (h : el τi 74 d = Kd ∧ el τi 72 d = 1 ∧ el τi 73 d = n) : ∃ τ2, RLp N 2 τp τ2 ∧ (∀ g : Nat, g ≠ 46 → g ≠ 41 → fl τ2 g 0 = fl τi g 0) ∧ fl τ2 41 0 = d ∧ fl τ2 46 0 = n ∧ (∀ a i, el τ2 a i = el τi a i) ∧ (∀ lo d', RDr lo d' τi τ2) := by
  obtain ⟨τ1, h1⟩ : ∃ τ1, τ1 = sf (sf τi 46 0 n) 41 0 (fl τi 41 0 - 1) := ⟨_, rfl⟩
  have t1 : rdK N 6 τp (d + 1) = some τ1 := by rw [ht.1, rw33_0 ⟨by omega, by omega⟩ h71, h1]
  have g41 : fl τ1 41 0 = d + 1 := by rw [h1, fl_sfs, h41]; omega
  have g11 : fl τ1 11 0 = 0 := by rw [h1, fl_sfn _ _ _ _ (by decide), fl_sfn _ _ _ _ (by decide)]; exact h11
  have e1 : ∀ a i, el τ1 a i = el τi a i := fun a i => by rw [h1, el_sf, el_sf]
  obtain ⟨τ2, h2⟩ : ∃ τ2, τ2 = sf (sf τ1 46 0 n) 41 0 (fl τ1 41 0 - 1) := ⟨_, rfl⟩
  have t2 : rdK N Kd τ1 d = some τ2 := by
    rcases hK with q | q
    · rw [q]
      show r_readApp N τ1 d = _
      rw [r_readApp, grd_t (by exact ⟨hd.1, by omega⟩), e1, h.2.1, grd_t (by decide), if_pos rfl, e1, h.2.2, r_finish', Option.bind_some, h2]
    · rw [q]
      show r_readPiece N τ1 d = _
      rw [r_readPiece, grd_t (by exact ⟨hd.1, by omega⟩), e1, h.2.1, grd_t (by decide), if_pos rfl, e1, h.2.2, r_finish', Option.bind_some, h2]
  refine ⟨τ2, (RLp.one (by rw [ht.2.1]; omega) ⟨by omega, by omega⟩ ht.2.2.1 ⟨ht.2.2.2, by omega, by omega⟩ t1).tr (RLp.one g41 ⟨hd.1, by omega⟩ g11 ⟨by rw [e1]; exact h.1, by omega, by omega⟩ t2), fun g x y => ?_, by rw [h2, fl_sfs, g41]; omega, by rw [h2, fl_sfn _ _ _ _ (by decide), fl_sfs], fun a i => by rw [h2, el_sf, el_sf, e1], fun lo d' => ?_⟩
  · rw [h2, fl_sfn _ _ _ _ y, fl_sfn _ _ _ _ x, h1, fl_sfn _ _ _ _ y, fl_sfn _ _ _ _ x]
  · rw [h2]
    refine ((?_ : RDr lo d' τi τ1).sf 46 n (by omega)).sf 41 _ (by omega)
    rw [h1]
    exact ((RDr.rf lo d' τi).sf 46 n (by omega)).sf 41 _ (by omega)
set_option maxHeartbeats 4000000 in
/-- its wants were patterns or nothing -/
theorem pi_end_w {fC fR K us d n pc place op e0 a a2 c c2 : Int} {L0 : List Stq} {Kn0 kn : List Int} {π0 π : Sh} {σ0 τ0 σ τp τ : St} {l : List Ech} {T : Nat} (hN : 30000001 ≤ N) (hc : CTX b dl) (h0 : XEs b Xo π0 σ0 τ0 L0 Kn0) (hB0 : PRE τ0 L0 Kn0) (hop : fl τ0 13 0 = op) (hd : 0 ≤ d ∧ d < 500) (h : WST N b dl Xo fC fR K 9 us d n pc place op e0 L0 Kn0 π0 σ0 τ0 π σ τ a a2 c c2 l kn T) (ht : TRN N τp τ d n) (h71 : el τ 71 (d + 1) = 0) (hk : (fC = fR ∧ (0 ≤ fC ∧ fC ≤ 20) ∧ NVa fC a a2 c c2 ∧ ((isOne fC ∧ l = [] ∧ (if fC = 4 then K = 9 else K = 13)) ∨ ((fC = 14 ∨ fC = 15) ∧ l.length = 1 ∧ K = 13))) ∨ (fC = 22 ∧ K = 10 ∧ ob π us 1 ∧ (us, fR) ∈ dl ∧ (l.length : Int) + 1 = el b.2.2.1 81 fR)) : ∃ τ2, RLp N 2 τp τ2 ∧ PIo N b dl Xo L0 Kn0 d π0 σ0 τ0 π σ τ2 pc (T + 2) := by
  have op20 := h0.2.2.2.1
  have l0 := h0.2.1.lf
  obtain ⟨a1, ⟨p1, p2, p3, p4, p5⟩, a3, a4, a5, a6, a7, a8, a9, ⟨a10, a10'⟩, a11, a12, a13, a14, a15, b1, b2, b3, b4, b5, b6, b7, b8⟩ := id h
  have l1 := a1.2.1.lf
  have v16 := h0.2.2.2.2.2.2.2.2.1
  have bv : 0 ≤ bV b := by obtain ⟨-, -, -, -, -, -, -, -, -, q⟩ := hc; exact q
  have hP : bP b ≤ 4 := by obtain ⟨-, -, -, -, ⟨q, -⟩, -⟩ := hc; exact q.2
  obtain ⟨τ2, t1, t2, t3, t4, t5, t6⟩ := end_turns (N := N) ht hd h71 a6.1 a1.2.2.1.2 (Or.inr rfl) a7
  have h16 : fl τ 16 0 ≤ 32768 := by unfold PRE at hB0; omega
  have f16 := t2 16 (by decide) (by decide)
  have lf2 : lf τ2 = lf τ := by unfold lf; rw [t2 1 (by decide) (by decide), t2 4 (by decide) (by decide)]
  have x2 : XEs b Xo π σ τ2 (L0 ++ egs l) (Kn0 ++ kn) := (a1.rt hc (t6 (bV b) 0) (Int.le_refl _) (Int.le_refl _) (by rw [f16]; exact a1.2.2.2.2.2.2.2.2.1) (fun g hg => t2 g (by omega) (by omega))).sub (fun x w => Or.inl w)
  have hk' := hk
  have K9 : (K = 9 ∧ l = []) ∨ (9 < K ∧ K ≤ 13) := by
    rcases hk with ⟨-, -, -, w⟩ | w
    · rcases w with ⟨w1, w2, w3⟩ | ⟨w1, w2, w3⟩
      · by_cases c4 : fC = 4
        · rw [if_pos c4] at w3; exact Or.inl ⟨w3, w2⟩
        · rw [if_neg c4] at w3; omega
      · omega
    · omega
  obtain ⟨W, hW⟩ : ∃ W, W = (e0 - lf τ + 28 * (20 - op)) / 2 + 3 := ⟨_, rfl⟩
  obtain ⟨Z, hZ⟩ : ∃ Z, Z = (e0 - lf τ + 28 * (20 - op)) / 2 + 5 := ⟨_, rfl⟩
  rw [← hW, ← hZ] at b1
  have fq : FUq N b τ2 n (fl τ2 16 0) (Kn0 ++ kn) L0.length (egs l) n (eaz l) W Z (ekk l + 1) := by
    intro x y hx
    have hl := HLv_b hx
    have e : ∀ a i, ¬ (a = 85 ∧ i = n) → el (se τ2 85 n y) a i = el τ a i := fun a i hq => by rw [el_se, if_neg hq, t5]
    rw [f16]
    rcases K9 with ⟨k9, ln⟩ | k9
    · rw [ln]
      exact tk_args_rev hN ⟨⟨by omega, by omega⟩, Int.le_refl _, a9.2⟩ (by rw [e 94 n (by omega), a10']; exact k9) (by omega) (by show 1 ≤ 1 + 1; omega)
    · have mem := a11.le.2
      have hs' : ECs N b (se τ2 85 n y) (Kn0 ++ kn) L0.length (n + 1) (fl τ 16 0) l := a11.cg (List.prefix_refl _) (fun u hu a i _ _ x3 x4 _ => e a i (by have := mem u hu; omega))
      have hn' : ECn (se τ2 85 n y) (n + 1) (fl τ 16 0) n l := ECn.mv a11 a12 ⟨e 87 n (by omega), e 86 n (by omega)⟩ (Int.le_refl _) (fun u hu => ⟨e 94 _ (by omega), e 85 _ (by have := mem u hu; omega)⟩)
      have ak := ak_e (x := x) (w := W) (z := Z) hN hP (by omega) hx hs' (by omega) hn'.1 b1
      exact tk_args (k1 := ekk l) hN ⟨⟨by omega, by omega⟩, Int.le_refl _, a9.2⟩ ⟨by rw [e 94 n (by omega), a10']; exact ⟨by omega, by omega⟩, by rw [e 94 n (by omega), a10']; omega⟩ rfl (ak.mono (Nat.le_refl _) (by omega) (Int.le_refl _) (fun _ _ _ _ _ _ => rfl) (List.prefix_refl _) (Int.le_refl _) (Int.le_refl _) (Int.le_refl _) (Int.le_refl _) (fun _ hx => hx) (fun _ hx => hx)) (by omega) (Nat.le_refl _)
  have nn0 := a9.1
  refine ⟨τ2, t1, a4, by rw [← nn0]; exact a5.tr (t6 n d) (Int.le_refl _) (Int.le_refl _), Or.inr ⟨egs l, kn, n, eaz l, W, Z, ekk l + 1, 1, 1, 2, 6, 9, 120, x2, ⟨t3, t4, by rw [t2 13 (by decide) (by decide), hop]; exact a8⟩, ⟨by omega, by rw [f16]; exact a9.2⟩, by rw [t5, a10']; omega, by rw [← nn0]; exact fq, fun q hq => ?_, a13, ⟨p1.1, by omega, by rw [p4]; omega⟩, fun q hq => ?_, ?_, ?_, ⟨by omega, by omega, ?_⟩⟩⟩
  · have w := eaz_in a11 (by omega) q hq
    rw [f16]
    exact ⟨w.1, by omega, w.2.2⟩
  · have q2 : 2 ≤ q := by omega
    obtain ⟨q', rfl⟩ : ∃ q', q = q' + 1 := ⟨q - 1, by omega⟩
    rw [f16, ← nn0]
    have w := ap_pat_w (N := N) hN hc ⟨h16, by omega, by omega⟩ h hk' q'
    exact w.at (PFx.rf _ _ _ _ _) (fun a i _ _ _ _ _ => t5 a i)
  · rw [lf2, hop]
    exact ⟨⟨by omega, by omega⟩, ⟨by omega, by omega⟩, ⟨by omega, by omega⟩, ⟨by omega, by omega⟩⟩
  · rw [lf2, f16]
    exact ⟨by push_cast; omega, by push_cast; omega, by omega, by omega, by push_cast; omega, by omega⟩
  · rw [lf2]
    exact ⟨by omega, by omega⟩
set_option maxHeartbeats 4000000 in
/-- its wants ended with a FUN -/
theorem pi_end_f {f d n pc place op e0 a a2 c c2 fc wA zA A B : Int} {m kA : Nat} {L0 : List Stq} {Kn0 kn : List Int} {π0 π : Sh} {σ0 τ0 σ τp τ : St} {x : Ech} {T : Nat} (hN : 30000001 ≤ N) (hc : CTX b dl) (h0 : XEs b Xo π0 σ0 τ0 L0 Kn0) (hB0 : PRE τ0 L0 Kn0) (hop : fl τ0 13 0 = op) (hd : 0 ≤ d ∧ d < 500) (hf : 0 ≤ f ∧ f ≤ 20) (h : WSF N b dl Xo f f 13 9 d n pc place op e0 L0 Kn0 π0 σ0 τ0 π σ τ a a2 c c2 x kn T fc m kA wA zA A B) (ht : TRN N τp τ d n) (h71 : el τ 71 (d + 1) = 0) (hv : NVa f a a2 c c2) (hk : f = 5 ∨ f = 6 ∨ f = 7 ∨ f = 8 ∨ f = 11 ∨ f = 12 ∨ f = 18 ∨ f = 19) (he : (f = 18 ∨ f = 7 ∨ f = 12) → e0 + 1 ≤ lf τ0) : ∃ τ2, RLp N 2 τp τ2 ∧ PIo N b dl Xo L0 Kn0 d π0 σ0 τ0 π σ τ2 pc (T + 2) := by
  have op20 := h0.2.2.2.1
  have l0 := h0.2.1.lf
  obtain ⟨a1, ⟨a2', a3, a4⟩, a5, a6, a7, a8, a9, a10, a11, ⟨a12, a13⟩, a14, a15, a16, a17, a18, ⟨w1, w2, w3, w4⟩, ⟨y1, y2, y3, y4, y5, y6⟩, ⟨a21, a22⟩, a23, a24⟩ := id h
  have l1 := a1.2.1.lf
  have v16 := h0.2.2.2.2.2.2.2.2.1
  have bv : 0 ≤ bV b := by obtain ⟨-, -, -, -, -, -, -, -, -, q⟩ := hc; exact q
  have hP : bP b ≤ 4 := by obtain ⟨-, -, -, -, ⟨q, -⟩, -⟩ := hc; exact q.2
  obtain ⟨τ2, t1, t2, t3, t4, t5, t6⟩ := end_turns (N := N) ht hd h71 a8.1 a1.2.2.1.2 (Or.inr rfl) a9
  have h16 : fl τ 16 0 ≤ 32768 := by unfold PRE at hB0; omega
  have f16 := t2 16 (by decide) (by decide)
  have lf2 : lf τ2 = lf τ := by unfold lf; rw [t2 1 (by decide) (by decide), t2 4 (by decide) (by decide)]
  have x2 : XEs b Xo π σ τ2 (L0 ++ eS x) (Kn0 ++ kn) := a1.rt hc (t6 (bV b) 0) (Int.le_refl _) (Int.le_refl _) (by rw [f16]; exact a1.2.2.2.2.2.2.2.2.1) (fun g hg => t2 g (by omega) (by omega))
  have nn0 := a11.1
  have es : egs [x] = eS x := by show eS x ++ [] = _; rw [List.append_nil]
  have ea : eaz [x] = eA x := by show (match eO x with | some o => [(eC x, o)] | none => eA x) ++ [] = _; rw [a17, List.append_nil]
  have ek : ekk [x] = eK x + 3 := rfl
  have fq : FUq N b τ2 n (fl τ2 16 0) (Kn0 ++ kn) L0.length (eS x) n (eA x) (eW x + 2) (eZ x + 1) (eK x + 4) := by
    intro u y hx
    have hl := HLv_b hx
    have e : ∀ a i, ¬ (a = 85 ∧ i = n) → el (se τ2 85 n y) a i = el τ a i := fun a i hq => by rw [el_se, if_neg hq, t5]
    rw [f16]
    have mem := a14.le.2
    have hs' : ECs N b (se τ2 85 n y) (Kn0 ++ kn) L0.length (n + 1) (fl τ 16 0) [x] := a14.cg (List.prefix_refl _) (fun u hu a i _ _ x3 x4 _ => e a i (by have := mem u hu; omega))
    have hn' : ECn (se τ2 85 n y) (n + 1) (fl τ 16 0) n [x] := ECn.mv a14 a15 ⟨e 87 n (by omega), e 86 n (by omega)⟩ (Int.le_refl _) (fun u hu => ⟨e 94 _ (by omega), e 85 _ (by have := mem u hu; omega)⟩)
    have ak := ak_e (x := u) (w := eW x + 2) (z := eZ x + 1) hN hP (by omega) hx hs' (by omega) hn'.1 ⟨⟨Int.le_refl _, by omega, by omega⟩, by show 0 ≤ eZ x + 1 - 1; omega⟩
    rw [es, ea, ek] at ak
    exact tk_args (k1 := eK x + 3) hN ⟨⟨by omega, by omega⟩, Int.le_refl _, a11.2⟩ ⟨by rw [e 94 n (by omega), a13]; decide, by rw [e 94 n (by omega), a13]; decide⟩ rfl (ak.mono (Nat.le_refl _) (by omega) (Int.le_refl _) (fun _ _ _ _ _ _ => rfl) (List.prefix_refl _) (Int.le_refl _) (Int.le_refl _) (Int.le_refl _) (Int.le_refl _) (fun _ hx => hx) (fun _ hx => hx)) (by omega) (Nat.le_refl _)
  refine ⟨τ2, t1, a6, by rw [← nn0]; exact a7.tr (t6 n d) (Int.le_refl _) (Int.le_refl _), Or.inr ⟨eS x, kn, n, eA x, eW x + 2, eZ x + 1, eK x + 4, (if f = 18 ∨ f = 7 ∨ f = 12 then m + 3 else m + 1), kA + 6, wA + 2, zA + 1, (if f = 18 ∨ f = 7 ∨ f = 12 then A + 18 else A + 6), (if f = 18 ∨ f = 7 ∨ f = 12 then B + 180 else B + 60), x2, ⟨t3, t4, by rw [t2 13 (by decide) (by decide), hop]; exact a10⟩, ⟨by omega, by rw [f16]; exact a11.2⟩, by rw [t5, a13]; decide, by rw [← nn0]; exact fq, fun q hq => ?_, a16, ⟨a2'.1, by omega, by rw [a4]; omega⟩, fun q hq => ?_, ?_, ?_, ?_⟩⟩
  · have w := a14.2.1.2.2.2.1 q hq
    have w' := a14.1
    have w2 := a14.2.2
    have w3 : eH x ≤ fl τ 16 0 := w2
    rw [f16]
    exact ⟨w.1, by omega, by omega⟩
  · obtain ⟨q', rfl⟩ : ∃ q', q = q' + 1 := ⟨q - 1, by omega⟩
    rw [f16, ← nn0]
    have w := ap_fun_w (N := N) (wk := 11) hN hP ⟨h16, by omega⟩ hf h hv hk (Or.inl ⟨rfl, rfl⟩) q' (by omega)
    exact w.at (PFx.rf _ _ _ _ _) (fun a i _ _ _ _ _ => t5 a i)
  · rw [lf2, hop]
    exact ⟨⟨by omega, by omega⟩, ⟨by omega, by omega⟩, ⟨by omega, by omega⟩, ⟨by omega, by omega⟩⟩
  · rw [lf2, f16]
    by_cases s : f = 18 ∨ f = 7 ∨ f = 12
    · have := he s
      rw [if_pos s]
      exact ⟨by push_cast; omega, by push_cast; omega, by omega, by omega, by push_cast; omega, by omega⟩
    · rw [if_neg s]
      exact ⟨by push_cast; omega, by push_cast; omega, by omega, by omega, by push_cast; omega, by omega⟩
  · rw [lf2]
    by_cases s : f = 18 ∨ f = 7 ∨ f = 12
    · have := he s
      rw [if_pos s, if_pos s]
      exact ⟨by omega, by omega, by omega, by omega⟩
    · rw [if_neg s, if_neg s]
      exact ⟨by omega, by omega, by omega, by omega⟩
end PQ9
