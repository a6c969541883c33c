/-! what definitions want, but for the last -/
section NA9
variable {N : Nat} {b : Bse} {Xo : Int → Prop} {dl : List (Int × Int)} {rA rF : Sh → St → Option (Sh × St × Int)}
theorem nuw_rep (k : Nat) (tail : List Int) : List.replicate (k + 1) (4 : Int) ++ tail = 4 :: (List.replicate k 4 ++ tail) := by rw [List.replicate_succ, List.cons_append]
theorem named_args {fR K Kd us d n pc place op e0 mm : Int} {tail : List Int} {L0 : List Stq} {Kn0 : List Int} {π0 : Sh} {σ0 τ0 : St} (hN : 30000001 ≤ N) (hc : CTX b dl) (h0 : XEs b Xo π0 σ0 τ0 L0 Kn0) (hB0 : PRE τ0 L0 Kn0) (hd : 0 ≤ d ∧ d + 2 ≤ 10 * op + 11) (hop : fl τ0 13 0 = op) (hr : ∀ x ∈ tail, 1 ≤ x ∧ x ≤ 4) (hl : tail.length ≤ 1) (hm : 0 ≤ mm ∧ mm ≤ 3) (hA : ARH N b dl 5 1 0 11 rA op) : ∀ (k : Nat) (π : Sh) (σ τp τ : St) (l : List Ech) (kn : List Int) (T m : Nat), WST N b dl Xo 22 fR K Kd us d n pc place op e0 L0 Kn0 π0 σ0 τ0 π σ τ 0 0 0 0 l kn T → TRN N τp τ d n → el τ 71 (d + 1) = nuw (List.replicate k 4 ++ tail) → (l.length : Int) + k = mm → ∃ π' σ' τp' t, Rd_named_76 N rA rF (m + k + 2) π σ pc mm l.length = some (π', σ', pc) ∧ RLp N t τp τp' ∧ (WFt b Xo d n pc L0 Kn0 π0 σ0 τ0 π' σ' τp' (T + t) ∨ ∃ τi l' kn', TRN N τp' τi d n ∧ el τi 71 (d + 1) = nuw tail ∧ WST N b dl Xo 22 fR K Kd us d n pc place op e0 L0 Kn0 π0 σ0 τ0 π' σ' τi 0 0 0 0 l' kn' (T + t) ∧ (l'.length : Int) = mm)
  | 0, π, σ, τp, τ, l, kn, T, m, h, ht, h71, he => by
    refine ⟨π, σ, τp, 0, ?_, RLp.rf τp, Or.inr ⟨τ, l, kn, ht, by simpa using h71, h, by omega⟩⟩
    rw [Rd_named_76, grd_t (by exact ⟨by omega, by omega⟩), grd_t (by exact ⟨by omega, by omega⟩), if_neg (by omega)]
    rfl
  | k + 1, π, σ, τp, τ, l, kn, T, m, h, ht, h71, he => by
    rw [nuw_rep] at h71
    have f182 := h.1.2.2.1.1
    have hr' : ∀ x ∈ List.replicate k (4 : Int) ++ tail, 1 ≤ x ∧ x ≤ 4 := fun x hx => by
      rcases List.mem_append.1 hx with q | q
      · have := List.eq_of_mem_replicate q; omega
      · exact hr x q
    obtain ⟨π', σ', o, σ'', τp', t, q1, q2, q3, q4, q5⟩ := ws_pat hN hc h0 hB0 hd hop h ht h71 hr' (by rw [List.length_append, List.length_replicate]; omega) (by omega) hA
    have cl : ∀ fu : Nat, Rd_named_76 N rA rF (fu + 1) π σ pc mm l.length = Rd_named_76 N rA rF fu π' σ'' pc mm (l.length + 1) := fun fu => by
      rw [Rd_named_76, grd_t (by exact ⟨by omega, by omega⟩), grd_t (by exact ⟨by omega, by omega⟩), if_pos (by omega), f182, grd_t (by decide), if_pos rfl, q1, Option.bind_some]
      simp only
      rw [Rd_named_97, q2, Option.bind_some, grd_t q3]
    rcases q5 with q | ⟨x, kn', τi, w1, w2, w3, w4, w5⟩
    · refine ⟨π', σ'', τp', t, ?_, q4, Or.inl ⟨q3, q⟩⟩
      have e : m + (k + 1) + 2 = (m + k + 2) + 1 := by omega
      rw [e, cl (m + k + 2), Rd_named_76, grd_t (by exact ⟨by omega, by omega⟩), grd_t (by exact ⟨by omega, by omega⟩)]
      by_cases c : (l.length : Int) + 1 < mm
      · rw [if_pos c, grd_t q.2.1, if_neg q.1]; rfl
      · rw [if_neg c]; rfl
    · have ll : ((l ++ [x]).length : Int) = l.length + 1 := by simp
      obtain ⟨π2, σ2, τp2, t2, p1, p2, p3⟩ := named_args hN hc h0 hB0 hd hop hr hl hm hA k π' σ'' τp' τi (l ++ [x]) kn' (T + t) m w2 w3 w4 (by omega)
      refine ⟨π2, σ2, τp2, t + t2, ?_, q4.tr p2, ?_⟩
      · have e : m + (k + 1) + 2 = (m + k + 2) + 1 := by omega
        rw [e, cl (m + k + 2), ← ll]; exact p1
      · have et : T + (t + t2) = T + t + t2 := by omega
        rw [et]; exact p3
end NA9
