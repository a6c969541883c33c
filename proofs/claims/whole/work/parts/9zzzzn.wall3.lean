/-! what functions want: all of it, both -/
/-- what a function wants, but for its last -/
def prg (f : Int) : List Int := if f = 4 then [] else if f ≤ 3 then [1] else if f = 5 ∨ f = 11 ∨ f = 12 ∨ f = 18 then [2, 3] else if f = 6 then [2, 2, 3] else if f = 7 then [1, 3] else if f = 8 then [3] else if f = 14 ∨ f = 15 then [4] else if f = 19 then [1, 1, 3] else if f = 20 then [1, 1] else [2]
/-- it was read: patterns alone, or a FUN -/
def WEn (N : Nat) (b : Bse) (dl : List (Int × Int)) (Xo : Int → Prop) (f fR K Kd us d n pc place op : Int) (L0 : List Stq) (Kn0 : List Int) (π0 : Sh) (σ0 τ0 : St) (π : Sh) (σ τp : St) (T : Nat) (tail : List Int) : Prop := ∃ τi e0 a a2 c c2, TRN N τp τi d n ∧ el τi 71 (d + 1) = nuw tail ∧ ((∃ l kn, WST N b dl Xo f fR K Kd us d n pc place op e0 L0 Kn0 π0 σ0 τ0 π σ τi a a2 c c2 l kn T ∧ (f ≤ 20 → NVa f a a2 c c2 ∧ ((isOne f ∧ l = []) ∨ ((f = 14 ∨ f = 15) ∧ l.length = 1)))) ∨ (∃ x kn fc m kA wA zA A B, WSF N b dl Xo f fR K Kd d n pc place op e0 L0 Kn0 π0 σ0 τ0 π σ τi a a2 c c2 x kn T fc m kA wA zA A B ∧ NVa f a a2 c c2 ∧ (f = 5 ∨ f = 6 ∨ f = 7 ∨ f = 8 ∨ f = 11 ∨ f = 12 ∨ f = 18 ∨ f = 19) ∧ ((f = 18 ∨ f = 7 ∨ f = 12) → e0 + 1 ≤ lf τ0)))
/-- signs of the table -/
theorem ltr (f : Int) (hf : 0 ≤ f ∧ f ≤ 20) : ((f ≤ 3 ∨ f = 7 ∨ f = 19 ∨ f = 20) → chW (f * 4 + 0) = 65) ∧ ((f = 5 ∨ f = 6 ∨ f = 9 ∨ f = 10 ∨ f = 11 ∨ f = 12 ∨ f = 13 ∨ f = 16 ∨ f = 17 ∨ f = 18) → chW (f * 4 + 0) = 78) ∧ ((f = 19 ∨ f = 20) → chW (f * 4 + 1) = 65) ∧ (f = 6 → chW (f * 4 + 1) = 78) ∧ (f = 8 → chW (f * 4 + 0) = 70) ∧ ((f = 5 ∨ f = 7 ∨ f = 11 ∨ f = 12 ∨ f = 18) → chW (f * 4 + 1) = 70) ∧ ((f = 6 ∨ f = 19) → chW (f * 4 + 2) = 70) ∧ ((f = 14 ∨ f = 15) → chW (f * 4 + 0) = 80 ∧ chW (f * 4 + 0 + 1) ≠ 32) ∧ (f = 4 → chW (f * 4 + 0) = 80 ∧ chW (f * 4 + 0 + 1) = 32) ∧ ((f ≤ 3 ∨ f = 8 ∨ f = 9 ∨ f = 10 ∨ f = 13 ∨ f = 14 ∨ f = 15 ∨ f = 16 ∨ f = 17) → chW (f * 4 + 1) = 80 ∧ chW (f * 4 + 1 + 1) = 32) ∧ ((f = 5 ∨ f = 7 ∨ f = 11 ∨ f = 12 ∨ f = 18 ∨ f = 20) → chW (f * 4 + 2) = 80 ∧ chW (f * 4 + 2 + 1) = 32) := by
  have h : f = 0 ∨ f = 1 ∨ f = 2 ∨ f = 3 ∨ f = 4 ∨ f = 5 ∨ f = 6 ∨ f = 7 ∨ f = 8 ∨ f = 9 ∨ f = 10 ∨ f = 11 ∨ f = 12 ∨ f = 13 ∨ f = 14 ∨ f = 15 ∨ f = 16 ∨ f = 17 ∨ f = 18 ∨ f = 19 ∨ f = 20 := by omega
  rcases h with rfl | rfl | rfl | rfl | rfl | rfl | rfl | rfl | rfl | rfl | rfl | rfl | rfl | rfl | rfl | rfl | rfl | rfl | rfl | rfl | rfl <;> exact ⟨by decide, by decide, by decide, by decide, by decide, by decide, by decide, by decide, by decide, by decide, by decide⟩
section WI9
variable {N : Nat} {b : Bse} {Xo : Int → Prop} {dl : List (Int × Int)} {rA rF : Sh → St → Option (Sh × St × Int)}
/-- a FUN is the last of it -/
theorem wt_fun {f K Kd us d n pc place op e0 a a2 c c2 i : Int} {tail : List Int} {L0 : List Stq} {Kn0 : List Int} {π0 π : Sh} {σ0 τ0 σ τp τ : St} {T m : Nat} (hN : 30000001 ≤ N) (hc : CTX b dl) (h0 : XEs b Xo π0 σ0 τ0 L0 Kn0) (hB0 : PRE τ0 L0 Kn0) (hd : 0 ≤ d ∧ d + 2 ≤ 10 * op + 11) (hop : fl τ0 13 0 = op) (hf : 0 ≤ f ∧ f ≤ 20) (h : WST N b dl Xo f f K Kd us d n pc place op e0 L0 Kn0 π0 σ0 τ0 π σ τ a a2 c c2 [] [] T) (ht : TRN N τp τ d n) (h71 : el τ 71 (d + 1) = nuw (3 :: tail)) (hr : ∀ x ∈ tail, 1 ≤ x ∧ x ≤ 4) (hl : tail.length ≤ 3) (hF : FUH N b dl rF op) (hi : 0 ≤ i ∧ i < 3) (hw : chW (f * 4 + i) = 70) (hs : i + 1 = 3 ∨ (chW (f * 4 + (i + 1)) = 80 ∧ chW (f * 4 + (i + 1) + 1) = 32)) (hv : NVa f a a2 c c2) (hk : f = 5 ∨ f = 6 ∨ f = 7 ∨ f = 8 ∨ f = 11 ∨ f = 12 ∨ f = 18 ∨ f = 19) (he : (f = 18 ∨ f = 7 ∨ f = 12) → e0 + 1 ≤ lf τ0) : ∃ π' σ' τp' t, Rd_wants_9 N rA rF (m + 2) π σ pc (f * 4) i = some (π', σ') ∧ RLp N t τp τp' ∧ (WFt b Xo d n pc L0 Kn0 π0 σ0 τ0 π' σ' τp' (T + t) ∨ WEn N b dl Xo f f K Kd us d n pc place op L0 Kn0 π0 σ0 τ0 π' σ' τp' (T + t) tail) := by
  have f182 := h.1.2.2.1.1
  obtain ⟨π', σ', fc, σ'', τp', t, q1, q2, q3, q4, q5⟩ := ws_fun hN hc h0 hB0 hd hop h ht h71 hr hl hF
  have cl := cw_fun (N := N) (rA := rA) (n := m + 1) (v := f * 4) hi (by omega) f182 hw q1 q3
  rw [← q2] at cl
  rcases q5 with q | ⟨x, kn', τi, m', kA, wA, zA, A, B, w1, w2, w3, w4⟩
  · exact ⟨π', σ'', τp', t, by rw [cl]; exact cw_stop (by omega) (by omega) q.2.1 (Or.inl q.1), q4, Or.inl ⟨q3, q⟩⟩
  · exact ⟨π', σ'', τp', t, by rw [cl]; exact cw_stop (by omega) (by omega) (by rw [w4]; decide) (Or.inr hs), q4, Or.inr ⟨τi, e0, a, a2, c, c2, w2, w3, Or.inr ⟨x, kn', fc, m', kA, wA, zA, A, B, w1, hv, hk, he⟩⟩⟩
theorem wt_none {f K Kd us d n pc place op e0 a a2 c c2 i : Int} {tail : List Int} {L0 : List Stq} {Kn0 : List Int} {π0 π : Sh} {σ0 τ0 σ τp τ : St} {T m : Nat} (hf : 0 ≤ f ∧ f ≤ 20) (h : WST N b dl Xo f f K Kd us d n pc place op e0 L0 Kn0 π0 σ0 τ0 π σ τ a a2 c c2 [] [] T) (ht : TRN N τp τ d n) (h71 : el τ 71 (d + 1) = nuw tail) (hi : 0 ≤ i ∧ i ≤ 3) (hs : i = 3 ∨ (chW (f * 4 + i) = 80 ∧ chW (f * 4 + i + 1) = 32)) (hv : NVa f a a2 c c2) (hk : isOne f) : Rd_wants_9 N rA rF (m + 1) π σ pc (f * 4) i = some (π, σ) ∧ WEn N b dl Xo f f K Kd us d n pc place op L0 Kn0 π0 σ0 τ0 π σ τp T tail := by
  have f182 := h.1.2.2.1.1
  exact ⟨cw_stop hi (by omega) (by rw [f182]; decide) (Or.inr hs), τ, e0, a, a2, c, c2, ht, h71, Or.inl ⟨[], [], h, fun _ => ⟨hv, Or.inl ⟨hk, rfl⟩⟩⟩⟩
set_option maxHeartbeats 4000000 in
/-- all that a function wants, but for its last -/
theorem wants_all {f K Kd us d n pc place op : Int} {tail : List Int} {L0 : List Stq} {Kn0 : List Int} {π0 π : Sh} {σ0 τ0 σ τ : St} {T m : Nat} (hN : 30000001 ≤ N) (hc : CTX b dl) (h0 : XEs b Xo π0 σ0 τ0 L0 Kn0) (hB0 : PRE τ0 L0 Kn0) (hd : 0 ≤ d ∧ d + 2 ≤ 10 * op + 11) (hop : fl τ0 13 0 = op) (hf : 0 ≤ f ∧ f ≤ 20) (h : WST N b dl Xo f f K Kd us d n pc place op (lf τ0) L0 Kn0 π0 σ0 τ0 π σ τ 0 0 0 0 [] [] T) (ht : TRN N τ τ d n) (h71 : el τ 71 (d + 1) = nuw (prg f ++ tail)) (hr : ∀ x ∈ tail, 1 ≤ x ∧ x ≤ 4) (hl : tail.length ≤ 1) (hA : ARH N b dl 5 1 0 11 rA op) (hF : FUH N b dl rF op) : ∃ π' σ' τp' t, Rd_wants_9 N rA rF (m + 5) π σ pc (f * 4) 0 = some (π', σ') ∧ RLp N t τ τp' ∧ (WFt b Xo d n pc L0 Kn0 π0 σ0 τ0 π' σ' τp' (T + t) ∨ WEn N b dl Xo f f K Kd us d n pc place op L0 Kn0 π0 σ0 τ0 π' σ' τp' (T + t) tail) := by
  obtain ⟨l1, l2, l3, l4, l5, l6, l7, l8, l9, l10, l11⟩ := ltr f hf
  have op20 := h0.2.2.2.1
  have d500 : d < 500 := by omega
  have zero : ∀ g, g = f → (g = 4 ∨ g = 8 ∨ g = 14 ∨ g = 15) → NVa f 0 0 0 0 := fun g e w => ⟨⟨fun q => by omega, fun q => by omega, fun q => by omega, fun q => by omega⟩, fun _ => ⟨rfl, rfl, rfl, rfl⟩, fun q => by omega, fun q => by omega⟩
  have one : ∀ (a a2 c c2 : Int), NV1 f a a2 → c = 0 → c2 = 0 → ¬ (f = 4 ∨ f = 8 ∨ f = 14 ∨ f = 15) → f ≠ 6 → ¬ (f = 19 ∨ f = 20) → NVa f a a2 c c2 := fun a a2 c c2 w _ _ z1 z2 z3 => ⟨w, fun q => absurd q z1, fun q => absurd q z2, fun q => absurd q z3⟩
  by_cases c4 : f = 4
  · have e : prg f = [] := by unfold prg; rw [if_pos c4]
    rw [e, List.nil_append] at h71
    obtain ⟨q1, q2⟩ := wt_none (N := N) (rA := rA) (rF := rF) (m := m + 4) (i := 0) hf h ht h71 (by decide) (Or.inr (l9 c4)) (zero f rfl (Or.inl c4)) (by unfold isOne; omega)
    exact ⟨π, σ, τ, 0, q1, RLp.rf τ, Or.inr q2⟩
  by_cases c8 : f = 8
  · have e : prg f = [3] := by rw [c8]; decide
    rw [e, List.singleton_append] at h71
    exact wt_fun (rA := rA) (m := m + 3) (i := 0) hN hc h0 hB0 hd hop hf h ht h71 hr (by omega) hF (by decide) (l5 c8) (Or.inr (l10 (by omega))) (zero f rfl (by omega)) (by omega) (fun q => by omega)
  by_cases c14 : f = 14 ∨ f = 15
  · have e : prg f = [4] := by rcases c14 with w | w <;> rw [w] <;> decide
    rw [e, List.singleton_append] at h71
    have f182 := h.1.2.2.1.1
    obtain ⟨π', σ', o, σ'', τp', t, q1, q2, q3, q4, q5⟩ := ws_pat hN hc h0 hB0 hd hop h ht h71 hr (by omega) (by simp) hA
    have cl := cw_pat (N := N) (rF := rF) (n := m + 4) (v := f * 4) (i := 0) (by decide) (by omega) f182 (l8 c14) q1 q2 q3
    rcases q5 with q | ⟨x, kn', τi, w1, w2, w3, w4, w5⟩
    · exact ⟨π', σ'', τp', t, by rw [cl]; exact cw_stop (by decide) (by omega) q.2.1 (Or.inl q.1), q4, Or.inl ⟨q3, q⟩⟩
    · exact ⟨π', σ'', τp', t, by rw [cl]; exact cw_stop (by decide) (by omega) (by rw [w5]; decide) (Or.inr (Or.inr (l10 (by omega)))), q4, Or.inr ⟨τi, lf τ0, 0, 0, 0, 0, w3, w4, Or.inl ⟨[x], kn', w2, fun _ => ⟨zero f rfl (by omega), Or.inr ⟨c14, rfl⟩⟩⟩⟩⟩
  -- a number comes first
  obtain ⟨w, r, hr1, hw1, hw2, hr3⟩ : ∃ w r, prg f = w :: r ∧ ((w = 1 ∧ chW (f * 4 + 0) = 65 ∧ (f ≤ 3 ∨ f = 7 ∨ f = 19 ∨ f = 20)) ∨ (w = 2 ∧ chW (f * 4 + 0) = 78 ∧ (f = 5 ∨ f = 6 ∨ f = 9 ∨ f = 10 ∨ f = 11 ∨ f = 12 ∨ f = 13 ∨ f = 16 ∨ f = 17 ∨ f = 18))) ∧ (∀ x ∈ r, 1 ≤ x ∧ x ≤ 4) ∧ r.length ≤ 2 := by
    by_cases a1 : f ≤ 3 ∨ f = 7 ∨ f = 19 ∨ f = 20
    · refine ⟨1, (prg f).tail, ?_, Or.inl ⟨rfl, l1 a1, a1⟩, ?_, ?_⟩
      all_goals
        have z : f = 0 ∨ f = 1 ∨ f = 2 ∨ f = 3 ∨ f = 7 ∨ f = 19 ∨ f = 20 := by omega
        rcases z with z | z | z | z | z | z | z <;> rw [z] <;> decide
    · have z : f = 5 ∨ f = 6 ∨ f = 9 ∨ f = 10 ∨ f = 11 ∨ f = 12 ∨ f = 13 ∨ f = 16 ∨ f = 17 ∨ f = 18 := by omega
      refine ⟨2, (prg f).tail, ?_, Or.inr ⟨rfl, l2 z, z⟩, ?_, ?_⟩
      all_goals rcases z with z | z | z | z | z | z | z | z | z | z <;> rw [z] <;> decide
  rw [hr1, List.cons_append] at h71
  have hr' : ∀ x ∈ r ++ tail, 1 ≤ x ∧ x ≤ 4 := fun x hx => by
    rcases List.mem_append.1 hx with q | q
    · exact hw2 x q
    · exact hr x q
  obtain ⟨σ1, τ1, q1, q2, q3⟩ := wn_one (rA := rA) (rF := rF) (m := m + 4) (i := 0) hN hc h0 hB0 hop ⟨hd.1, d500⟩ hf h ht h71 hr' (by rw [List.length_append]; omega) hw1 (Or.inl ⟨rfl, rfl, rfl, rfl, rfl⟩)
  rcases q3 with q | ⟨a, a2, c, c2, v1, -, v3, v4, v5⟩
  · exact ⟨π, σ1, τ1, 1, by rw [q1]; exact cw_stop (by decide) (by omega) q.2.2.1 (Or.inl q.2.1), q2, Or.inl q⟩
  obtain ⟨nv, cz, cz2⟩ := v1 rfl
  by_cases c2n : f = 6 ∨ f = 19 ∨ f = 20
  · -- a second number
    obtain ⟨w', r', hq1, hq2, hq3, hq4⟩ : ∃ w' r', r = w' :: r' ∧ ((w' = 1 ∧ chW (f * 4 + 1) = 65 ∧ (f ≤ 3 ∨ f = 7 ∨ f = 19 ∨ f = 20)) ∨ (w' = 2 ∧ chW (f * 4 + 1) = 78 ∧ (f = 5 ∨ f = 6 ∨ f = 9 ∨ f = 10 ∨ f = 11 ∨ f = 12 ∨ f = 13 ∨ f = 16 ∨ f = 17 ∨ f = 18))) ∧ (∀ x ∈ r', 1 ≤ x ∧ x ≤ 4) ∧ ((f = 20 ∧ r' = []) ∨ ((f = 6 ∨ f = 19) ∧ r' = [3])) := by
      rcases c2n with z | z | z
      · rw [z] at hr1
        have e : r = [2, 3] := by
          have : prg 6 = [2, 2, 3] := by decide
          rw [this] at hr1
          exact (List.cons.inj hr1).2.symm
        exact ⟨2, [3], e, Or.inr ⟨rfl, l4 z, by omega⟩, by decide, Or.inr ⟨Or.inl z, rfl⟩⟩
      · rw [z] at hr1
        have e : r = [1, 3] := by
          have : prg 19 = [1, 1, 3] := by decide
          rw [this] at hr1
          exact (List.cons.inj hr1).2.symm
        exact ⟨1, [3], e, Or.inl ⟨rfl, l3 (by omega), by omega⟩, by decide, Or.inr ⟨Or.inr z, rfl⟩⟩
      · rw [z] at hr1
        have e : r = [1] := by
          have : prg 20 = [1, 1] := by decide
          rw [this] at hr1
          exact (List.cons.inj hr1).2.symm
        exact ⟨1, [], e, Or.inl ⟨rfl, l3 (by omega), by omega⟩, by decide, Or.inl ⟨z, rfl⟩⟩
    rw [hq1, List.cons_append] at v5
    have hr2 : ∀ x ∈ r' ++ tail, 1 ≤ x ∧ x ≤ 4 := fun x hx => by
      rcases List.mem_append.1 hx with q | q
      · exact hq3 x q
      · exact hr x q
    have rl' : (r' ++ tail).length ≤ 3 := by
      rw [List.length_append]
      rcases hq4 with z | z
      · rw [z.2]; simp; omega
      · rw [z.2]; simp; omega
    obtain ⟨σ2, τ2, p1, p2, p3⟩ := wn_one (rA := rA) (rF := rF) (m := m + 3) (i := 1) hN hc h0 hB0 hop ⟨hd.1, d500⟩ hf v3 v4 v5 hr2 rl' hq2 (Or.inr ⟨rfl, nv, cz, cz2, c2n⟩)
    rcases p3 with q | ⟨a', a2', c', c2', -, u2, u3, u4, u5⟩
    · refine ⟨π, σ2, τ2, 1 + 1, ?_, q2.tr p2, Or.inl ?_⟩
      · rw [q1]
        show Rd_wants_9 N rA rF (m + 3 + 1) π σ1 pc (f * 4) 1 = _
        rw [p1]; exact cw_stop (by decide) (by omega) q.2.2.1 (Or.inl q.2.1)
      · exact q
    have nva := u2 rfl
    rcases hq4 with ⟨z, z2⟩ | ⟨z, z2⟩
    · rw [z2, List.nil_append] at u5
      obtain ⟨s1, s2⟩ := wt_none (N := N) (rA := rA) (rF := rF) (m := m + 2) (i := 2) hf u3 u4 u5 (by decide) (Or.inr (l11 (by omega))) nva (by unfold isOne; omega)
      refine ⟨π, σ2, τ2, 1 + 1, ?_, q2.tr p2, Or.inr s2⟩
      rw [q1]
      show Rd_wants_9 N rA rF (m + 3 + 1) π σ1 pc (f * 4) 1 = _
      rw [p1]; exact s1
    · rw [z2, List.singleton_append] at u5
      obtain ⟨π', σ', τp', t, s1, s2, s3⟩ := wt_fun (rA := rA) (m := m + 1) (i := 2) hN hc h0 hB0 hd hop hf u3 u4 u5 hr (by omega) hF (by decide) (l7 z) (Or.inl (by decide)) nva (by omega) (fun q => by omega)
      refine ⟨π', σ', τp', 1 + 1 + t, ?_, (q2.tr p2).tr s2, ?_⟩
      · rw [q1]
        show Rd_wants_9 N rA rF (m + 3 + 1) π σ1 pc (f * 4) 1 = _
        rw [p1]; exact s1
      · have et : T + (1 + 1 + t) = T + 1 + 1 + t := by omega
        rw [et]; exact s3
  · by_cases c3 : f = 5 ∨ f = 7 ∨ f = 11 ∨ f = 12 ∨ f = 18
    · have e : r = [3] := by
        rcases c3 with z | z | z | z | z
        all_goals
          rw [z] at hr1
        · have : prg 5 = [2, 3] := by decide
          rw [this] at hr1; exact (List.cons.inj hr1).2.symm
        · have : prg 7 = [1, 3] := by decide
          rw [this] at hr1; exact (List.cons.inj hr1).2.symm
        · have : prg 11 = [2, 3] := by decide
          rw [this] at hr1; exact (List.cons.inj hr1).2.symm
        · have : prg 12 = [2, 3] := by decide
          rw [this] at hr1; exact (List.cons.inj hr1).2.symm
        · have : prg 18 = [2, 3] := by decide
          rw [this] at hr1; exact (List.cons.inj hr1).2.symm
      rw [e, List.singleton_append] at v5
      obtain ⟨π', σ', τp', t, s1, s2, s3⟩ := wt_fun (rA := rA) (m := m + 2) (i := 1) hN hc h0 hB0 hd hop hf v3 v4 v5 hr (by omega) hF (by decide) (l6 c3) (Or.inr (l11 (by omega))) (one a a2 c c2 nv cz cz2 (by omega) (by omega) (by omega)) (by omega) (fun q => by omega)
      refine ⟨π', σ', τp', 1 + t, ?_, q2.tr s2, ?_⟩
      · rw [q1]; exact s1
      · have et : T + (1 + t) = T + 1 + t := by omega
        rw [et]; exact s3
    · have e : r = [] := by
        have z : f = 0 ∨ f = 1 ∨ f = 2 ∨ f = 3 ∨ f = 9 ∨ f = 10 ∨ f = 13 ∨ f = 16 ∨ f = 17 := by omega
        have hl1 : (prg f).length = 1 := by rcases z with z | z | z | z | z | z | z | z | z <;> rw [z] <;> decide
        rw [hr1] at hl1
        cases r with
        | nil => rfl
        | cons _ _ => simp at hl1
      rw [e, List.nil_append] at v5
      obtain ⟨s1, s2⟩ := wt_none (N := N) (rA := rA) (rF := rF) (m := m + 3) (i := 1) hf v3 v4 v5 (by decide) (Or.inr (l10 (by omega))) (one a a2 c c2 nv cz cz2 (by omega) (by omega) (by omega)) (by unfold isOne; omega)
      exact ⟨π, σ1, τ1, 1, by rw [q1]; exact s1, q2, Or.inr s2⟩
end WI9
