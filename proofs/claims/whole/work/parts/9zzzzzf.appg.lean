/-! names before what they are applied to: FUNs, two patterns, definitions -/
section AO9
variable {N : Nat} {b : Bse} {Xo : Int → Prop} {dl : List (Int × Int)}
theorem eou_app (l m : List Ech) : eou (l ++ m) = eou l ++ eou m := by
  induction l with
  | nil => rfl
  | cons x xs ih =>
    show (match eO x with | some o => [o] | none => []) ++ eou (xs ++ m) = ((match eO x with | some o => [o] | none => []) ++ eou xs) ++ eou m
    rw [ih, List.append_assoc]
theorem eou_last {l : List Ech} {x : Ech} {o : Int} (h : eO x = some o) : eou (l ++ [x]) = eou l ++ [o] := by
  rw [eou_app]
  show _ ++ ((match eO x with | some o => [o] | none => []) ++ []) = _
  rw [h]; rfl
theorem eav_nil {τ : St} {Kn : List Int} : ∀ {l : List Ech} {j lo hi : Int}, ECs N b τ Kn j lo hi l → (∀ y ∈ l, eO y ≠ none) → eav l = []
  | [], _, _, _, _, _ => rfl
  | x :: xs, j, lo, hi, h, k => by
    show eA x ++ eav xs = []
    rw [eav_nil h.2.2 (fun y hy => k y (List.mem_cons_of_mem _ hy)), List.append_nil]
    rcases h.2.1.2.2.2.2 with ⟨o, q1, q2, -⟩ | ⟨q1, -⟩
    · exact q2
    · exact absurd q1 (k x (by simp))
theorem FN.h88 {τ τ' : St} {n place f a b c d : Int} (h : FN τ n place f a b c d) (k : ∀ a : Int, 88 ≤ a → a ≤ 94 → el τ' a n = el τ a n) : FN τ' n place f a b c d := by
  obtain ⟨g1, g2, g3, g4, g5, g6⟩ := h
  exact ⟨by rw [k 93 (by omega) (by omega)]; exact g1, by rw [k 92 (by omega) (by omega)]; exact g2, by rw [k 91 (by omega) (by omega)]; exact g3, by rw [k 90 (by omega) (by omega)]; exact g4, by rw [k 89 (by omega) (by omega)]; exact g5, by rw [k 88 (by omega) (by omega)]; exact g6⟩
set_option maxHeartbeats 2000000 in
/-- functions that have a FUN -/
theorem apq_fun {f Kd d n pc place op e0 a a2 c c2 fc wA zA A B : Int} {m kA : Nat} {L0 : List Stq} {Kn0 kn : List Int} {π0 π : Sh} {σ0 τ0 σ τ : St} {x0 : Ech} {T : Nat} (hN : 30000001 ≤ N) (hP : bP b ≤ 4) (h : WSF N b dl Xo f f 8 Kd d n pc place op e0 L0 Kn0 π0 σ0 τ0 π σ τ a a2 c c2 x0 kn T fc m kA wA zA A B) (hv : NVa f a a2 c c2) (hk : f = 5 ∨ f = 6 ∨ f = 7 ∨ f = 8 ∨ f = 11 ∨ f = 12 ∨ f = 18 ∨ f = 19) (hn : 0 ≤ n) (ho : 0 ≤ op ∧ op ≤ 20) : APQ N b dl Xo n pc op e0 L0 Kn0 π0 π σ τ [x0] (if f = 18 ∨ f = 7 ∨ f = 12 then m + 3 else m + 1) (if f = 18 ∨ f = 7 ∨ f = 12 then kA + 6 else kA + 3) (if f = 18 ∨ f = 7 ∨ f = 12 then A + 18 else A + 6) (if f = 18 ∨ f = 7 ∨ f = 12 then B + 180 else B + 60) := by
  intro π' σ' τ' o x kn' e pf xO xA xi hb hL h88 hch hE hC hB
  obtain ⟨a1, ⟨a2', a3, a4⟩, a5, a6, a7, a8, a9, a10, a11, ⟨a12, a13⟩, a14, a15, a16, a17, a18, ⟨w1, w2, w3, w4⟩, ⟨y1, y2, y3, y4, y5, y6⟩, ⟨a21, a22⟩, a23, a24⟩ := h
  have l2 := xi.2.1.lf
  have hp' : PCf π' σ' pc f place a a2 c c2 := a2'.cg pf.1 (fun g a b => pf.2.1 g pc (by omega) (by omega) (by omega) (by omega) (by omega))
  have e126 : fl σ' 126 pc = fc := by rw [pf.2.1 126 pc (by omega) (by omega) (by omega) (by omega) (by omega)]; exact a3
  have heo : eou ([x0] ++ [x]) = [o] := by
    rw [eou_last xO]
    show ((match eO x0 with | some o => [o] | none => []) ++ []) ++ [o] = _
    rw [a17]; rfl
  have hev : eav ([x0] ++ [x]) = eA x0 := by
    show eA x0 ++ (eA x ++ []) = _
    rw [xA, List.append_nil, List.append_nil]
  have h87 : el τ' 87 n = eC x0 := hC.1.1.1
  have ng := e.1.1
  have hA : APs N (bD b) (bP b) (bV b) (n + 1) (fl τ 16 0) m kA wA zA A B (Uoe dl b) (eA x0) 11 (eC x0) (pc + 2) (nn π) (-1) π' σ' τ' (rFn N b 23 fc) := (a18 23 (by omega)).at (pf.sub (by omega) (Int.le_refl _) (fun _ _ => by omega)) (fun a i z1 z2 z3 z4 z5 => hch a i z1 z2 z3 z4 (fun ea y hy => by
    have ey : y = x0 := by simpa using hy.symm
    rw [ey]
    intro ei
    exact z5 ⟨ea, ei⟩))
  have hav : ∀ y ∈ eA x0, bV b ≤ y.1 ∧ y.1 ≠ n := fun y hy => by
    have q := a14.2.1.2.2.2.1 y hy
    have e := a14.1
    exact ⟨q.1, by omega⟩
  have at' := apt_fun (rA := Pc_applyC N 23) (s0 := nn π0) (s1 := nn π) (lo := n) (hi := fl τ' 16 0) hN hP hp' e126 ⟨by omega, by omega⟩ ⟨⟨by omega, Int.le_refl _⟩, by omega, by omega⟩ hk ⟨⟨hn, by omega⟩, Int.le_refl _, hb.1⟩ (a12.h88 h88) (hv.iv (by omega)) h87 ⟨by omega, hb.2.2.1, by omega⟩ ⟨w3.1, w4.1⟩ hav hA
  rw [← hev] at at'
  exact apq_fin hN hP xi ⟨hn, hb.1, hb.2.1⟩ hL hE hC hB (by omega) (by rw [h88 94 (by omega) (by omega)]; exact a13) heo at' ⟨by omega, by omega⟩ ⟨by omega, by omega⟩
set_option maxHeartbeats 2000000 in
/-- struct and mask -/
theorem apq_two {f place a a2 c c2 n pc op e0 oa : Int} {L0 : List Stq} {Kn0 : List Int} {π0 π : Sh} {σ τ : St} {x0 : Ech} (hN : 30000001 ≤ N) (hP : bP b ≤ 4) (hp : PCf π σ pc f place a a2 c c2) (ha : PCa π σ pc [oa]) (hs : nn π0 ≤ pc ∧ pc < nn π) (hsa : nn π0 ≤ fl σ 129 pc ∧ fl σ 129 pc < nn π) (hf : f = 14 ∨ f = 15) (hx0 : eO x0 = some oa) (hF : FN τ n place f a a2 c c2) (h94 : el τ 94 n = 8) (hn : 0 ≤ n) (ho : op ≤ 20 ∧ lf τ ≤ e0) : APQ N b dl Xo n pc op e0 L0 Kn0 π0 π σ τ [x0] 1 1 6 60 := by
  intro π' σ' τ' o x kn' e pf xO xA xi hb hL h88 hch hE hC hB
  have kf : ∀ g : Nat, 120 ≤ g → g ≤ 130 → g ≠ 127 → fl σ' g pc = fl σ g pc := fun g a b c => pf.2.1 g pc a b hs.1 hs.2 (by omega)
  have hp' : PCf π' σ' pc f place a a2 c c2 := hp.cg pf.1 (fun g a b => kf g (by omega) (by omega) (by omega))
  have ha' : PCa π' σ' pc [oa] := ha.cg pf.1 (fun g hg => kf g (by omega) (by omega) (by omega)) (fun j => pf.2.2 _ j hsa.1 hsa.2 ha.1.1)
  obtain ⟨π'', σ'', q1, q2⟩ := ap_two_ok (N := N) (rA := Pc_applyC N 23) (p := o) hp' ha' hf xi.1 xi.2.2.2.2.2.1 (by omega)
  have heo : eou ([x0] ++ [x]) = [oa, o] := by
    rw [eou_last xO]
    show ((match eO x0 with | some o => [o] | none => []) ++ []) ++ [o] = _
    rw [hx0]; rfl
  have hne : ∀ y ∈ [x0] ++ [x], eO y ≠ none := fun y hy => by
    rcases List.mem_append.1 hy with q | q
    · have : y = x0 := by simpa using q
      rw [this, hx0]; simp
    · have : y = x := by simpa using q
      rw [this, xO]; simp
  have hev := eav_nil hE hne
  have lj : ((L0 ++ egs ([x0] ++ [x])).length : Int) = L0.length + (egs ([x0] ++ [x])).length := by rw [List.length_append]; omega
  refine ⟨π'', σ'', _, _, q1, q2, by simp, fun y hy h9 => ?_, fq_func (kA := 1) (wA := 1) (zA := 2) hN hP ⟨hn, hb.1, hb.2.1⟩ (by omega) (by rw [h88 94 (by omega) (by omega)]; exact h94) hE hC hB (fun z y hz => ?_) ⟨by omega, by omega⟩ ⟨by omega, by omega⟩⟩
  · have ey : y = ((fK f a a2 c c2).1, place, 0, 0, 0, 0, 0, [(oa, 1, 1), (o, 1, 1)]) := by simpa using hy
    rw [ey] at h9
    exact absurd h9 (fK_n99 f a a2 c c2)
  · have hl := HLv_b hz
    have hF' : FN (se τ' 85 n y) n place f a a2 c c2 := (hF.h88 h88).h88 (fun a z1 z2 => by rw [el_se, if_neg (by omega)])
    rw [heo, hev, lj]
    exact tk_ftwo hN ⟨⟨hn, by omega⟩, Int.le_refl _, hb.1⟩ hF' hf (by omega) (by omega) (Nat.le_refl _) (Int.le_refl _)
set_option maxHeartbeats 2000000 in
/-- definitions -/
theorem apq_use {fR us place n pc op e0 a a2 c c2 : Int} {L0 : List Stq} {Kn0 : List Int} {π0 π : Sh} {σ τ : St} {l : List Ech} (hN : 30000001 ≤ N) (hP : bP b ≤ 4) (hp : PCf π σ pc 22 place a a2 c c2) (ha : PCa π σ pc (eou l)) (hs : nn π0 ≤ pc ∧ pc < nn π) (hsa : nn π0 ≤ fl σ 129 pc ∧ fl σ 129 pc < nn π) (hu : fl σ 128 pc = us ∧ ob π us 1) (hne : ∀ y ∈ l, eO y ≠ none) (hm : (us, fR) ∈ dl) (hl : (l.length : Int) + 1 = el b.2.2.1 81 fR) (hF : FN τ n place fR a a2 c c2) (h94 : el τ 94 n = 7) (hn : 0 ≤ n) (ho : op ≤ 20 ∧ lf τ ≤ e0) : APQ N b dl Xo n pc op e0 L0 Kn0 π0 π σ τ l 1 1 9 120 := by
  intro π' σ' τ' o x kn' e pf xO xA xi hb hL h88 hch hE hC hB
  have kf : ∀ g : Nat, 120 ≤ g → g ≤ 130 → g ≠ 127 → fl σ' g pc = fl σ g pc := fun g a b c => pf.2.1 g pc a b hs.1 hs.2 (by omega)
  have hp' : PCf π' σ' pc 22 place a a2 c c2 := hp.cg pf.1 (fun g a b => kf g (by omega) (by omega) (by omega))
  have ha' : PCa π' σ' pc (eou l) := ha.cg pf.1 (fun g hg => kf g (by omega) (by omega) (by omega)) (fun j => pf.2.2 _ j hsa.1 hsa.2 ha.1.1)
  obtain ⟨π'', σ'', q1, q2⟩ := ap_use_ok (N := N) (rA := Pc_applyC N 23) (p := o) (dd := fR) (by omega) hp' ha' ⟨by rw [kf 128 (by omega) (by omega) (by omega)]; exact hu.1, hu.2.ext pf.1⟩ xi.1 xi.2.2.2.2.2.1 (by omega)
  have heo : eou (l ++ [x]) = eou l ++ [o] := eou_last xO
  have hne' : ∀ y ∈ l ++ [x], eO y ≠ none := fun y hy => by
    rcases List.mem_append.1 hy with q | q
    · exact hne y q
    · have : y = x := by simpa using q
      rw [this, xO]; simp
  have hev := eav_nil hE hne'
  have lj : ((L0 ++ egs (l ++ [x])).length : Int) = L0.length + (egs (l ++ [x])).length := by rw [List.length_append]; omega
  refine ⟨π'', σ'', _, _, q1, q2, by simp, fun y hy h9 => ?_, ?_⟩
  · have ey : y = (99, place, us, fR, 0, 0, 0, (eou l ++ [o]).map (fun o => (o, 1, 1))) := by simpa using hy
    rw [ey]
    refine ⟨hm, ?_, rfl⟩
    show ((((eou l ++ [o]).map (fun o => (o, (1 : Int), (1 : Int)))).length : Nat) : Int) = _
    rw [List.length_map, List.length_append, eou_eq hne, ← hl]
    rfl
  · intro z y hz
    have hl' := HLv_b hz
    have ey : ∀ a i, ¬ (a = 85 ∧ i = n) → el (se τ' 85 n y) a i = el τ' a i := fun a i hq => by rw [el_se, if_neg hq]
    have mem := hE.le.2
    have hs' : ECs N b (se τ' 85 n y) (Kn0 ++ kn') L0.length (n + 1) (fl τ' 16 0) (l ++ [x]) := hE.cg (List.prefix_refl _) (fun u hu a i _ _ x3 x4 _ => ey a i (by have := mem u hu; omega))
    have hn' : ECn (se τ' 85 n y) (n + 1) (fl τ' 16 0) n (l ++ [x]) := ECn.mv hE hC ⟨ey 87 n (by omega), ey 86 n (by omega)⟩ (Int.le_refl _) (fun u hu => ⟨ey 94 _ (by omega), ey 85 _ (by have := mem u hu; omega)⟩)
    have fk := fk_e (x := z) (w := (e0 - lf τ' + 28 * (20 - op)) / 2 + 3) (z := (e0 - lf τ' + 28 * (20 - op)) / 2 + 5) hN hP (by omega) hz hs' hn'.1 hB
    have om : ((eou l ++ [o]).map (fun o => ((o, 1, 1) : Kid))).map (fun k => k.1) = eou (l ++ [x]) := by
      rw [heo, List.map_map]
      exact List.map_id _
    rw [hev, ← om] at fk
    have hF' : FN (se τ' 85 n y) n place fR a a2 c c2 := (hF.h88 h88).h88 (fun a z1 z2 => by rw [el_se, if_neg (by omega)])
    have es : (12 - (z : Int)) + 1 = 13 - z := by omega
    rw [lj]
    exact mk_call (U' := UDl N (z - 1)) hN hP (UDl.hU hz rfl) ⟨⟨hn, by omega⟩, Int.le_refl _, hb.1⟩ (by rw [ey 94 n (by omega), h88 94 (by omega) (by omega)]; exact h94) rfl hF'.2.1 hF'.1 fk ⟨by omega, Int.le_refl _⟩ ⟨by omega, by rw [es]; omega, by omega⟩ ⟨by omega, by rw [es]; omega⟩ (Nat.le_refl _) (by decide) ⟨by decide, by decide⟩
end AO9
