/-! rows of expressions: the loop, both -/
section RI
variable {N : Nat} {b : Bse} {Xo : Int → Prop} {dl : List (Int × Int)} {lp : Nat → Sh → St → Int → Int → Option (Sh × St × Int)} {sub : Sh → St → Option (Sh × St × Int)}
/-- what the class's loop does -/
def LPo (N : Nat) (Kf sp s : Int) (sub : Sh → St → Option (Sh × St × Int)) (lp : Nat → Sh → St → Int → Int → Option (Sh × St × Int)) : Prop := (∀ n π σ i σ1 π2 σ2 o π3 σ3, 0 ≤ i → i < 2000 → fl σ 182 1 = 0 → fl σ 185 1 = sp → Sc_advance N π σ = some σ1 → sub π σ1 = some (π2, σ2, o) → GVr N (Kf + 4) π2 σ2 s o π3 σ3 → ob π2 s 10 → lp (n + 1) π σ s i = lp n π3 σ3 s (i + 1)) ∧ (∀ n π σ i π' σ' o', 0 ≤ i → i < 3000 → i32 (fl σ 182 1) → (fl σ 182 1 = 0 → i32 (fl σ 185 1) ∧ fl σ 185 1 ≠ sp) → Df_add N π σ (fl σ 144 44) s = some (π', σ', o') → ob π (fl σ 144 44) 1 → lp (n + 1) π σ s i = some (π', σ', o'))
theorem FRn.le {n0 n1 : Int} {π π' : Sh} {σ σ' : St} (h : FRn n0 π σ π' σ') (hn : n1 ≤ n0) : FRn n1 π σ π' σ' := ⟨h.1, fun f i hi => h.2.1 f i (by omega), fun a j ha => h.2.2 a j (by omega)⟩
set_option maxHeartbeats 4000000 in
theorem row_fl {Kf cs vs op d r s place lw sp : Int} {L0 : List Stq} {Kn0 kn : List Int} {π0 π π2 : Sh} {σ0 τ0 σ τ σ2 τ2 : St} {l : List Ech} {T t n : Nat} {o : Int} (hc : CTX b dl) (h0 : XEs b Xo π0 σ0 τ0 L0 Kn0) (hB0 : PRE τ0 L0 Kn0) (hop : fl τ0 13 0 = op) (hlp : LPo N Kf sp s sub lp) (hv : 0 ≤ vs ∧ vs ≤ 3) (h : RWA N b dl Xo Kf cs op d r s place L0 Kn0 π0 σ0 τ0 π σ τ l kn lw T) (hn : 1 ≤ n) (q1 : sub π σ = some (π2, σ2, o)) (q2 : RLp N t τ τ2) (e : EFt (bX b) (bY b) π σ π2 σ2) (rd : RDr (fl τ 16 0) (d + 1) τ τ2) (hf : EXf b (XR Xo σ s) (L0 ++ egs l) (Kn0 ++ kn) vs π σ τ π2 σ2 τ2 t) : ∃ π2 σ2 o π3 σ3 π' σ' o' τ' t, sub π σ = some (π2, σ2, o) ∧ GVr N (Kf + 4) π2 σ2 s o π3 σ3 ∧ ob π2 s 10 ∧ lp n π3 σ3 s l.length = some (π', σ', o') ∧ RLp N t τ τ' ∧ EXo N b dl Xo L0 Kn0 d (cs + 3) (vs + 1) π0 σ0 τ0 π' σ' τ' o' (T + t) := by
  obtain ⟨a1, a2, a3, a4, a5, a6, a7, a8, a9, a10, a11, a12, a13, a14, a15, b1, b2, b3, b4, b5, b6, b7, b8, b9⟩ := h
  obtain ⟨f1, f2, f3⟩ := hf
  obtain ⟨g1, g2⟩ := a2.ef hc a1 e
  have xr : XR Xo σ2 s = XR Xo σ s := XR.eq (fun f _ _ => g2 f)
  have x2 := e.x hc a1
  have l0 := h0.2.1.lf
  have l1 := a1.2.1.lf
  have n01 := a3.1.1
  have n12 := e.1.1
  have nb := h0.2.2.2.2.2.2.1.1.1
  rw [a7, List.length_append, List.length_append] at f1
  rw [a7] at f2
  have m1 : 1 ≤ l.length := by cases l with | nil => exact absurd rfl a15 | cons y ys => simp
  obtain ⟨n', rfl⟩ : ∃ n', n = n' + 1 := ⟨n - 1, by omega⟩
  have hX : ∀ x, Xo x → x < nn π0 := fun x hx => (h0.2.2.2.2.2.1.2.2.2.2.2.2.2.1 x hx).2
  rw [← xr] at f1
  have op0 := h0.2.2.2.1
  unfold PRE at hB0
  have lx0 := h0.lt hc
  obtain ⟨π3, σ3, π4, σ4, o4, lw', c1, c2, c3, c4, c5, c6, c7, c8, c9, c10⟩ := row_fault (N := N) (n := n' + 1) (i := l.length) (o := o) (lp := lp) hc g1 f1 x2 ⟨by omega, by omega⟩ hX (by rw [eopz_len]; omega) (by omega) ⟨by omega, by omega⟩ (fun π σ π' σ' o' z1 z2 z3 z4 => hlp.2 n' π σ _ π' σ' o' (by omega) (by omega) z2 (fun w => absurd w z1) z3 z4)
  have sn : 56 ≤ s := by have := a2.s; have := this.1.2.1; omega
  have ss : s ≠ bX b ∧ s ≠ bY b := by
    have sq := a2.s.1.2.1
    have c3 := hc.2.2.1
    omega
  have k31 : fl σ3 1 (bX b) = fl σ2 1 (bX b) ∧ fl σ3 1 (bY b) = fl σ2 1 (bY b) := ⟨c10 1 _ (fun w => ss.1 w.symm), c10 1 _ (fun w => ss.2 w.symm)⟩
  have lt2 := f1.lt x2
  have e03 : EFt (bX b) (bY b) π0 σ0 π3 σ3 := (a3.tr e).own c5 k31
  have lt3 : bY b < nn π3 ∧ bX b < nn π3 := by have := c5.1.1; omega
  have e04 : EFt (bX b) (bY b) π0 σ0 π4 σ4 := e03.tr (EFt.lx c6 ⟨lt3.1, fun w => lx0.1.2.2.2.2 w.symm⟩)
  have cy4 : cpc π4 σ4 (bY b) = cpc π2 σ2 (bY b) := by
    have w1 : cpc π3 σ3 (bY b) = cpc π2 σ2 (bY b) := cpc_eq k31.2 c5.1 lt2.2
    have w2 : cpc π4 σ4 (bY b) = cpc π3 σ3 (bY b) := cpc_eq (c6.2.1 1 _ lt3.1 (by omega)) c6.1 (by rw [k31.2]; have := c5.1.1; omega)
    omega
  have cx3 : cpc π3 σ3 (bX b) = cpc π2 σ2 (bX b) := cpc_eq k31.1 c5.1 lt2.1
  have w210 : ln π2 (fl σ2 210 s) = ln π (fl σ 210 s) := by
    rw [g2 210]
    have := a2.s.1.2.2.2.1.2.1
    exact (e.1.2.2 _ this).2
  have ez : ((eopz l).length : Int) = l.length := by rw [eopz_len]
  refine ⟨π2, σ2, o, π3, σ3, π4, σ4, o4, τ2, t, q1, c1, c2, c3, q2, e04, a4.tr rd (by omega) (by omega), Or.inl ⟨c4.mono (by omega) (by omega), ⟨?_, ?_⟩, ?_⟩⟩
  · have := f2.1
    omega
  · have w := f2.2
    rw [w210] at c8
    omega
  · push_cast
    omega
end RI
