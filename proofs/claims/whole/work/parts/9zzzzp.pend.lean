/-! a piece is done: how it is applied -/
section PE9
variable {N : Nat} {b : Bse} {Xo : Int → Prop} {dl : List (Int × Int)}
def spc (f : Int) : Prop := f = 18 ∨ f = 7 ∨ f = 12
/-- functions with a FUN -/
theorem ap_fun_w {f K Kd d n pc place op e0 a a2 c c2 fc wA zA A B wk : Int} {m kA : Nat} {L0 : List Stq} {Kn0 kn : List Int} {π0 π : Sh} {σ0 τ0 σ τ : St} {x : Ech} {T : Nat} (hN : 30000001 ≤ N) (hP : bP b ≤ 4) (h16 : fl τ 16 0 ≤ 32768 ∧ 0 ≤ n) (hf : 0 ≤ f ∧ f ≤ 20) (h : WSF N b dl Xo f f K Kd d n pc place op e0 L0 Kn0 π0 σ0 τ0 π σ τ a a2 c c2 x kn T fc m kA wA zA A B) (hv : NVa f a a2 c c2) (hk : f = 5 ∨ f = 6 ∨ f = 7 ∨ f = 8 ∨ f = 11 ∨ f = 12 ∨ f = 18 ∨ f = 19) (hw : (wk = 11 ∧ K = 13) ∨ wk = 12) (q : Nat) (hq : 21 ≤ op + q) : APs N (bD b) (bP b) (bV b) n (fl τ 16 0) (if f = 18 ∨ f = 7 ∨ f = 12 then m + 3 else m + 1) (kA + 6) (wA + 2) (zA + 1) (if f = 18 ∨ f = 7 ∨ f = 12 then A + 18 else A + 6) (if f = 18 ∨ f = 7 ∨ f = 12 then B + 180 else B + 60) (Uoe dl b) (eA x) wk n (nn π0) (nn π) pc π σ τ (fun π σ p => Pc_apply N (Pc_applyC N q) π σ pc (bD b) p) := by
  obtain ⟨a1, ⟨a2', a3, a4⟩, a5, a6, a7, a8, a9, a10, a11, ⟨a12, a13⟩, a14, a15, a16, a17, a18, ⟨w1, w2, w3, w4⟩, a20, ⟨a21, a22⟩, a23, a24⟩ := h
  have hA : APs N (bD b) (bP b) (bV b) (n + 1) (fl τ 16 0) m kA wA zA A B (Uoe dl b) (eA x) 11 (eC x) (pc + 2) (nn π) (-1) π σ τ (fun π σ p => Pc_applyAll N (Pc_applyC N q) π σ fc (bD b) p) := a18 q hq
  have nd : ND n (fl τ 16 0) n := ⟨⟨h16.2, by omega⟩, Int.le_refl _, a11.2⟩
  have h87 : el τ 87 n = eC x := a15.1.1.1
  have hs : (nn π0 : Int) ≤ pc ∧ pc < nn π := by omega
  have ht : ((nn π0 : Int) ≤ pc + 2 ∧ (nn π : Int) ≤ nn π) ∧ pc < pc + 2 ∧ (nn π : Int) ≤ nn π := by omega
  have hl : n ≤ n + 1 ∧ fl τ 16 0 ≤ fl τ 16 0 ∧ n < n + 1 := by omega
  have hw' : (wk = 11 ∧ el τ 94 n = 13) ∨ wk = 12 := by
    rcases hw with w | w
    · exact Or.inl ⟨w.1, by rw [a13]; exact w.2⟩
    · exact Or.inr w
  have iv := hv.iv hf
  have hav : ∀ y ∈ eA x, bV b ≤ y.1 ∧ y.1 ≠ n := fun y hy => by
    have q := a14.2.1.2.2.2.1 y hy
    have e := a14.1
    exact ⟨q.1, by omega⟩
  by_cases s : f = 18 ∨ f = 7 ∨ f = 12
  · rw [if_pos s, if_pos s, if_pos s]
    rcases s with s | s | s
    · subst s
      exact APl.mono (aps_some hN hP a2' a3 hs ht rfl nd a12 hw' iv h87 hl ⟨w3.1, w4.1⟩ hav hA) ⟨Int.le_refl _, Int.le_refl _⟩ (Nat.le_refl _) (Nat.le_refl _) ⟨by omega, by omega⟩ ⟨by omega, by omega⟩ ⟨Int.le_refl _, Int.le_refl _⟩ (fun _ _ => rfl) (fun _ hx => hx)
    · subst s
      exact APl.mono (aps_off hN hP a2' a3 hs ht rfl nd a12 hw' iv h87 hl ⟨w3.1, w4.1⟩ hA) ⟨Int.le_refl _, Int.le_refl _⟩ (by omega) (by omega) ⟨by omega, by omega⟩ ⟨by omega, by omega⟩ ⟨Int.le_refl _, Int.le_refl _⟩ (fun _ _ => rfl) (fun _ hx => hx)
    · subst s
      exact APl.mono (aps_inside hN hP a2' a3 hs ht rfl nd a12 hw' iv h87 hl ⟨w3.1, w4.1⟩ hav hA) ⟨Int.le_refl _, Int.le_refl _⟩ (by omega) (by omega) ⟨by omega, by omega⟩ ⟨by omega, by omega⟩ ⟨Int.le_refl _, Int.le_refl _⟩ (fun _ _ => rfl) (fun _ hx => hx)
  · rw [if_neg s, if_neg s, if_neg s]
    by_cases s8 : f = 8
    · subst s8
      exact APl.mono (aps_over hN hP a2' a3 hs ht rfl nd a12 hw' iv h87 hl ⟨w3.1, w4.1⟩ hA) ⟨Int.le_refl _, Int.le_refl _⟩ (Nat.le_refl _) (by omega) ⟨by omega, by omega⟩ ⟨by omega, by omega⟩ ⟨Int.le_refl _, Int.le_refl _⟩ (fun _ _ => rfl) (fun _ hx => hx)
    · exact APl.mono (aps_fun2 hN hP a2' a3 hs ht rfl (by omega) nd a12 hw' iv h87 hl ⟨w3.1, w4.1⟩ hA) ⟨Int.le_refl _, Int.le_refl _⟩ (Nat.le_refl _) (by omega) ⟨by omega, by omega⟩ ⟨by omega, by omega⟩ ⟨Int.le_refl _, Int.le_refl _⟩ (fun _ _ => rfl) (fun _ hx => hx)
theorem eaz_zip : ∀ {l : List Ech}, (∀ y ∈ l, eO y ≠ none) → eaz l = (l.map eC).zip (eou l)
  | [], _ => rfl
  | x :: xs, h => by
    have hx := h x (by simp)
    show (match eO x with | some o => [(eC x, o)] | none => eA x) ++ eaz xs = (eC x :: xs.map eC).zip ((match eO x with | some o => [o] | none => []) ++ eou xs)
    rw [eaz_zip (fun y hy => h y (List.mem_cons_of_mem _ hy))]
    cases e : eO x with
    | none => exact absurd e hx
    | some o => rfl
theorem eou_eq {l : List Ech} (h : ∀ y ∈ l, eO y ≠ none) : (eou l).length = l.length := by rw [← eopz_1 h, List.length_map, eopz_len]
/-- pieces whose wants are patterns or nothing -/
theorem ap_pat_w {fC fR K Kd us d n pc place op e0 a a2 c c2 : Int} {L0 : List Stq} {Kn0 kn : List Int} {π0 π : Sh} {σ0 τ0 σ τ : St} {l : List Ech} {T : Nat} (hN : 30000001 ≤ N) (hc : CTX b dl) (h16 : fl τ 16 0 ≤ 32768 ∧ 0 ≤ n ∧ bV b ≤ n) (h : WST N b dl Xo fC fR K Kd us d n pc place op e0 L0 Kn0 π0 σ0 τ0 π σ τ a a2 c c2 l kn T) (hk : (fC = fR ∧ (0 ≤ fC ∧ fC ≤ 20) ∧ NVa fC a a2 c c2 ∧ ((isOne fC ∧ l = [] ∧ (if fC = 4 then K = 9 else K = 13)) ∨ ((fC = 14 ∨ fC = 15) ∧ l.length = 1 ∧ K = 13))) ∨ (fC = 22 ∧ K = 10 ∧ ob π us 1 ∧ (us, fR) ∈ dl ∧ (l.length : Int) + 1 = el b.2.2.1 81 fR)) (q : Nat) : APs N (bD b) (bP b) (bV b) n (fl τ 16 0) 1 1 2 6 9 120 (Uoe dl b) (eaz l) 11 n (nn π0) (nn π) pc π σ τ (fun π σ p => Pc_apply N (Pc_applyC N q) π σ pc (bD b) p) := by
  obtain ⟨a1, ⟨p1, p2, p3, p4, p5⟩, a3, a4, a5, a6, a7, a8, a9, ⟨a10, a10'⟩, a11, a12, a13, a14, a15, b1⟩ := h
  have nd : ND n (fl τ 16 0) n := ⟨⟨h16.2.1, by omega⟩, Int.le_refl _, a9.2⟩
  have hs : (nn π0 : Int) ≤ pc ∧ pc < nn π := by omega
  have hsa : (nn π0 : Int) ≤ fl σ 129 pc ∧ fl σ 129 pc < nn π := by rw [p3]; omega
  rcases hk with ⟨e, hf, hv, hk⟩ | ⟨e, hK, ho, hdl, hl⟩
  · subst e
    rcases hk with ⟨h1, h2, h3⟩ | ⟨h1, h2, h3⟩
    · by_cases c4 : fC = 4
      · rw [if_pos c4] at h3
        rw [c4] at p1
        exact APl.mono (aps_rev hN p1 hs nd (by rw [a10']; exact h3) a10.1) ⟨Int.le_refl _, Int.le_refl _⟩ (Nat.le_refl _) (Nat.le_refl _) ⟨by omega, by omega⟩ ⟨by omega, by omega⟩ ⟨Int.le_refl _, Int.le_refl _⟩ (fun _ _ => rfl) (fun _ hx => hx)
      · rw [if_neg c4] at h3
        exact APl.mono (aps_one hN p1 hs h1 nd a10 (Or.inl ⟨rfl, by rw [a10']; exact h3⟩) (hv.iv hf)) ⟨Int.le_refl _, Int.le_refl _⟩ (Nat.le_refl _) (Nat.le_refl _) ⟨by omega, by omega⟩ ⟨by omega, by omega⟩ ⟨Int.le_refl _, Int.le_refl _⟩ (fun _ _ => rfl) (fun _ hx => hx)
    · obtain ⟨x, hx⟩ : ∃ x, l = [x] := by
        cases l with
        | nil => simp at h2
        | cons y ys => cases ys with
          | nil => exact ⟨y, rfl⟩
          | cons _ _ => simp at h2
      have xo := a14 x (by rw [hx]; simp)
      obtain ⟨o, ho⟩ : ∃ o, eO x = some o := by
        cases e : eO x with
        | none => exact absurd e xo
        | some o => exact ⟨o, rfl⟩
      have e1 : eou l = [o] := by rw [hx]; show (match eO x with | some o => [o] | none => []) ++ [] = _; rw [ho]; rfl
      have e2 : eaz l = [(eC x, o)] := by rw [hx]; show (match eO x with | some o => [(eC x, o)] | none => eA x) ++ [] = _; rw [ho]; rfl
      rw [e1] at p2
      rw [hx] at a11 a12
      have h87 : el τ 87 n = eC x := a12.1.1.1
      have xc := a11.2.1.1.1
      exact APl.mono (aps_two hN p1 p2 hs hsa h1 nd a10 (by rw [a10']; exact h3) h87 xc (by rw [e2]; simp)) ⟨Int.le_refl _, Int.le_refl _⟩ (Nat.le_refl _) (Nat.le_refl _) ⟨by omega, by omega⟩ ⟨by omega, by omega⟩ ⟨Int.le_refl _, Int.le_refl _⟩ (fun _ _ => rfl) (fun _ hx => hx)
  · subst e
    have el' := eou_eq a14
    refine aps_use hN p1 p2 hs hsa ⟨p5, ho⟩ nd (by rw [a10']; exact hK) a10.1 a10.2.1 a12.1 (by rw [List.length_map, el']) (fun y hy => by rw [eaz_zip a14]; exact hy) (fun ops hops => ⟨hdl, ?_, rfl⟩)
    show (ops.length : Int) = el b.2.2.1 81 fR
    rw [hops, el', ← hl]
    push_cast
    omega
end PE9
