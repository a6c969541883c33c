/-! the scanner: names and counts -/
def SFc (σ σ' : St) : Prop := (∀ (f : Nat) (i : Int), ¬ (i = 1 ∧ 185 ≤ f ∧ f ≤ 190) → fl σ' f i = fl σ f i) ∧ ∀ a j : Int, el σ' a j = el σ a j
def SFr (τ τ' : St) : Prop := (∀ (f : Nat) (i : Int), ¬ (3 ≤ f ∧ f ≤ 10) → fl τ' f i = fl τ f i) ∧ ∀ a j : Int, el τ' a j = el τ a j
theorem SFc.rf (σ : St) : SFc σ σ := ⟨fun _ _ _ => rfl, fun _ _ => rfl⟩
theorem SFr.rf (τ : St) : SFr τ τ := ⟨fun _ _ _ => rfl, fun _ _ => rfl⟩
theorem SFc.tr {σ σ1 σ2 : St} (h : SFc σ σ1) (k : SFc σ1 σ2) : SFc σ σ2 := ⟨fun f i x => (k.1 f i x).trans (h.1 f i x), fun a j => (k.2 a j).trans (h.2 a j)⟩
theorem SFr.tr {τ τ1 τ2 : St} (h : SFr τ τ1) (k : SFr τ1 τ2) : SFr τ τ2 := ⟨fun f i x => (k.1 f i x).trans (h.1 f i x), fun a j => (k.2 a j).trans (h.2 a j)⟩
theorem SFc.sf {σ σ1 : St} (h : SFc σ σ1) (f : Nat) (v : Int) (hf : 185 ≤ f ∧ f ≤ 190) : SFc σ (sf σ1 f 1 v) := h.tr ⟨fun g i x => by rw [fl_sf, if_neg (by rintro ⟨rfl, rfl⟩; exact x ⟨rfl, hf⟩)], fun _ _ => rfl⟩
theorem SFr.sf {τ τ1 : St} (h : SFr τ τ1) (f : Nat) (v : Int) (hf : 3 ≤ f ∧ f ≤ 10) : SFr τ (sf τ1 f 0 v) := h.tr ⟨fun g i x => by rw [fl_sf, if_neg (by rintro ⟨rfl, rfl⟩; exact x hf)], fun _ _ => rfl⟩
theorem RTp.sc {σ τ σ' τ' : St} (h : RTp σ τ) (hc : SFc σ σ') (hr : SFr τ τ') : RTp σ' τ' := by
  unfold RTp
  rw [hc.1 181 1 (by omega), hr.1 1 0 (by omega)]
  obtain ⟨a, b, c, d⟩ := h
  exact ⟨a, b, c, fun j j0 j1 => by rw [hc.2, hr.2]; exact d j j0 j1⟩
theorem bA_sc {τ τ' : St} (hr : SFr τ τ') (k : Int) : bA τ' k = bA τ k := by unfold bA; rw [hr.1 1 0 (by omega), hr.2]
theorem bA_in {τ : St} {k : Int} (h : 0 ≤ k ∧ k < fl τ 1 0) : bA τ k = el τ 97 k := by unfold bA; rw [if_pos h]
/-- codes of a name on the tape, the last one first -/
def cdr (τ : St) (k : Int) : Nat → List Int
  | 0 => []
  | m + 1 => ncd (bA τ (k + m)) :: cdr τ k m
theorem cdr_len (τ : St) (k : Int) : ∀ m, (cdr τ k m).length = m
  | 0 => rfl
  | m + 1 => by show (cdr τ k m).length + 1 = m + 1; rw [cdr_len τ k m]
abbrev isNc (b : Int) : Prop := isLt b ∨ isDg b
theorem ncd_b {b : Int} (h : isNc b) : 1 ≤ ncd b ∧ ncd b ≤ 36 := by unfold ncd; split <;> omega
theorem cdr_ok {τ : St} {k : Int} : ∀ {m : Nat}, (∀ i, k ≤ i → i < k + m → isNc (bA τ i)) → okN (cdr τ k m)
  | 0, _ => fun c hc => absurd hc (by simp [cdr])
  | m + 1, h => fun c hc => by
    rcases List.mem_cons.mp hc with e | hc
    · rw [e]; exact ncd_b (h _ (by omega) (by omega))
    · exact cdr_ok (fun i a b => h i a (by omega)) c hc
theorem cdr_sc {τ τ' : St} (hr : SFr τ τ') (k : Int) : ∀ m, cdr τ' k m = cdr τ k m
  | 0 => rfl
  | m + 1 => by show ncd (bA τ' (k + m)) :: cdr τ' k m = _; rw [bA_sc hr, cdr_sc hr k m]; rfl
section SN
variable {N : Nat} {π : Sh}
theorem c_longer {n b : Int} (h : isNc b) : Sc_longer N n b = some (n * 37 + ncd b) := by
  have hb : i32 b := by rcases h with h | h <;> exact ⟨by omega, by omega⟩
  rw [Sc_longer, c_isDigit hb, Option.bind_some]
  unfold ncd
  by_cases c : isDg b
  · rw [if_pos c, if_pos c, grd_t (by decide), if_neg (by decide), Sc_longer_28, grd_t (by exact ⟨by omega, by omega⟩)]
  · rw [if_neg c, if_neg c, grd_t (by decide), if_pos rfl, Sc_longer_28, grd_t (by rcases h with h | h <;> exact ⟨by omega, by omega⟩)]
/-- both read a name -/
theorem both_name {σ0 τ0 : St} {k : Int} (hT : RTp σ0 τ0) (k0 : 0 ≤ k) (hat : fl σ0 186 1 = k) : ∀ (m : Nat) (n n' : Nat) (σ τ : St) (d : Nat), m < n → m < n' → SFc σ0 σ → SFr τ0 τ → fl σ 186 1 = k → k + d + m = fl τ0 1 0 → (∀ i, k ≤ i → i < k + d → isNc (bA τ0 i)) → fl σ 188 1 = n37 (cdr τ0 k d) → fl τ 7 0 = (n64 (cdr τ0 k d)).1 → fl τ 8 0 = (n64 (cdr τ0 k d)).2 → fl τ 4 0 = k → ∃ (e : Nat) (σ' τ' : St), d ≤ e ∧ k + e ≤ fl τ0 1 0 ∧ (∀ i, k ≤ i → i < k + e → isNc (bA τ0 i)) ∧ ¬ isNc (bA τ0 (k + e)) ∧ Sc_scanName_10 N π n σ (k + d) = some σ' ∧ r_lookName_17 N n' τ (k + d) d = some τ' ∧ SFc σ0 σ' ∧ SFr τ0 τ' ∧ fl σ' 186 1 = k ∧ fl σ' 187 1 = k + e ∧ fl σ' 185 1 = (if 12 < (e : Int) then 5 else 1) ∧ fl σ' 188 1 = n37 (cdr τ0 k e) ∧ fl τ' 4 0 = k ∧ fl τ' 5 0 = k + e ∧ fl τ' 3 0 = (if 12 < (e : Int) then 7 else 2) ∧ fl τ' 7 0 = (n64 (cdr τ0 k e)).1 ∧ fl τ' 8 0 = (n64 (cdr τ0 k e)).2 := by
  have size := hT.2.2.1
  intro m
  -- the end, wherever it is
  have stop : ∀ (n n' : Nat) (σ τ : St) (d : Nat), 0 < n → 0 < n' → SFc σ0 σ → SFr τ0 τ → fl σ 186 1 = k → k + d ≤ fl τ0 1 0 → (∀ i, k ≤ i → i < k + d → isNc (bA τ0 i)) → ¬ isNc (bA τ0 (k + d)) → fl σ 188 1 = n37 (cdr τ0 k d) → fl τ 7 0 = (n64 (cdr τ0 k d)).1 → fl τ 8 0 = (n64 (cdr τ0 k d)).2 → fl τ 4 0 = k → ∃ (e : Nat) (σ' τ' : St), d ≤ e ∧ k + e ≤ fl τ0 1 0 ∧ (∀ i, k ≤ i → i < k + e → isNc (bA τ0 i)) ∧ ¬ isNc (bA τ0 (k + e)) ∧ Sc_scanName_10 N π n σ (k + d) = some σ' ∧ r_lookName_17 N n' τ (k + d) d = some τ' ∧ SFc σ0 σ' ∧ SFr τ0 τ' ∧ fl σ' 186 1 = k ∧ fl σ' 187 1 = k + e ∧ fl σ' 185 1 = (if 12 < (e : Int) then 5 else 1) ∧ fl σ' 188 1 = n37 (cdr τ0 k e) ∧ fl τ' 4 0 = k ∧ fl τ' 5 0 = k + e ∧ fl τ' 3 0 = (if 12 < (e : Int) then 7 else 2) ∧ fl τ' 7 0 = (n64 (cdr τ0 k e)).1 ∧ fl τ' 8 0 = (n64 (cdr τ0 k e)).2 := by
    intro n n' σ τ d hn hn' hc hr h186 hd hA hB h188 h7 h8 h4
    obtain ⟨n, rfl⟩ : ∃ q, n = q + 1 := ⟨n - 1, by omega⟩
    obtain ⟨n', rfl⟩ : ∃ q, n' = q + 1 := ⟨n' - 1, by omega⟩
    have hT' := hT.sc hc hr
    have bb := bA_rg hT (k + d)
    have i1 : i32 (bA τ (k + d)) := by rw [bA_sc hr]; exact ⟨by omega, by omega⟩
    have ik : i32 (k + d) := ⟨by omega, by omega⟩
    have nl : ¬ isLt (bA τ (k + d)) := by rw [bA_sc hr]; exact fun h => hB (Or.inl h)
    have nd : ¬ isDg (bA τ (k + d)) := by rw [bA_sc hr]; exact fun h => hB (Or.inr h)
    refine ⟨d, sf (sf σ 187 1 (k + d)) 185 1 (if 12 < (d : Int) then 5 else 1), sf (sf τ 5 0 (k + d)) 3 0 (if 12 < (d : Int) then 7 else 2), Nat.le_refl _, hd, hA, hB, ?_, ?_, (hc.sf 187 _ (by omega)).sf 185 _ (by omega), (hr.sf 5 _ (by omega)).sf 3 _ (by omega), by rw [fl_sfn _ _ _ _ (by decide), fl_sfn _ _ _ _ (by decide)]; exact h186, by rw [fl_sfn _ _ _ _ (by decide), fl_sfs], fl_sfs _ _ _ _, by rw [fl_sfn _ _ _ _ (by decide), fl_sfn _ _ _ _ (by decide)]; exact h188, by rw [fl_sfn _ _ _ _ (by decide), fl_sfn _ _ _ _ (by decide)]; exact h4, by rw [fl_sfn _ _ _ _ (by decide), fl_sfs], fl_sfs _ _ _ _, by rw [fl_sfn _ _ _ _ (by decide), fl_sfn _ _ _ _ (by decide)]; exact h7, by rw [fl_sfn _ _ _ _ (by decide), fl_sfn _ _ _ _ (by decide)]; exact h8⟩
    · have e65 : Sc_scanName_65 N π σ (k + d) = some (sf (sf σ 187 1 (k + d)) 185 1 (if 12 < (d : Int) then 5 else 1)) := by
        rw [Sc_scanName_65, h186, show k + (d : Int) - k = d by omega, grd_t (by exact ⟨by omega, by omega⟩)]
        by_cases c : 12 < (d : Int)
        · rw [if_pos c, if_pos c]; rfl
        · rw [if_neg c, if_neg c]; rfl
      have t1 := hT'.1
      have t2 := hr.1 1 0 (by omega)
      rw [Sc_scanName_10, grd_t ik, t1, t2, grd_t (by exact ⟨by omega, by omega⟩)]
      by_cases c : k + (d : Int) < fl τ0 1 0
      · have eb := hT'.2.2.2 (k + d) (by omega) (by omega)
        have eq : bA τ (k + d) = el τ 97 (k + d) := bA_in ⟨by omega, by omega⟩
        rw [if_pos c, grd_t (by exact ⟨by omega, by omega⟩), eb.1, ← eq, c_isLetter i1, if_neg nl, Option.bind_some, grd_t (by decide), if_pos rfl, c_isDigit i1, if_neg nd, Option.bind_some, grd_t (by decide), if_pos rfl, e65]
      · rw [if_neg c, e65]
    · rw [r_lookName_17, rr_byteAt hT' ik, Option.bind_some, rr_isLow i1, if_neg nl, Option.bind_some, grd_t (by decide), if_pos rfl, rr_byteAt hT' ik, Option.bind_some, rr_isDigit i1, if_neg nd, Option.bind_some, grd_t (by decide), if_pos rfl, grd_t (by exact ⟨by omega, by omega⟩)]
      by_cases c : 12 < (d : Int)
      · rw [if_pos c, if_pos c]; rfl
      · rw [if_neg c, if_neg c]; rfl
  induction m with
  | zero =>
    intro n n' σ τ d hn hn' hc hr h186 hd hA h188 h7 h8 h4
    exact stop n n' σ τ d (by omega) (by omega) hc hr h186 (by omega) hA (by
      have : bA τ0 (k + d) = 0 := by unfold bA; rw [if_neg (by omega)]
      rw [this]; exact fun h => by rcases h with h | h <;> omega) h188 h7 h8 h4
  | succ m ih =>
    intro n n' σ τ d hn hn' hc hr h186 hd hA h188 h7 h8 h4
    by_cases cb : isNc (bA τ0 (k + d))
    · obtain ⟨n, rfl⟩ : ∃ q, n = q + 1 := ⟨n - 1, by omega⟩
      obtain ⟨n', rfl⟩ : ∃ q, n' = q + 1 := ⟨n' - 1, by omega⟩
      have hT' := hT.sc hc hr
      have bb := bA_rg hT (k + d)
      have i1 : i32 (bA τ (k + d)) := by rw [bA_sc hr]; exact ⟨by omega, by omega⟩
      have ik : i32 (k + d) := ⟨by omega, by omega⟩
      have t1 := hT'.1
      have t2 := hr.1 1 0 (by omega)
      have eb := hT'.2.2.2 (k + d) (by omega) (by omega)
      have eq : bA τ (k + d) = el τ 97 (k + d) := bA_in ⟨by omega, by omega⟩
      have cb' : isNc (bA τ (k + d)) := by rw [bA_sc hr]; exact cb
      obtain ⟨τ1, hτ1⟩ : ∃ τ1, τ1 = if (d : Int) < 6 then sf τ 7 0 (lor (lshl (fl τ 7 0) 6) (ncd (bA τ0 (k + d)))) else sf τ 8 0 (lor (lshl (land (fl τ 8 0) 1099511627775) 6) (ncd (bA τ0 (k + d)))) := ⟨_, rfl⟩
      have hr1 : SFr τ0 τ1 := by
        rw [hτ1]; split
        · exact hr.sf 7 _ (by omega)
        · exact hr.sf 8 _ (by omega)
      have len := cdr_len τ0 k d
      have ca : n64 (cdr τ0 k (d + 1)) = if (d : Int) < 6 then (lor (lshl (n64 (cdr τ0 k d)).1 6) (ncd (bA τ0 (k + d))), (n64 (cdr τ0 k d)).2) else ((n64 (cdr τ0 k d)).1, lor (lshl (land (n64 (cdr τ0 k d)).2 1099511627775) 6) (ncd (bA τ0 (k + d)))) := by
        show (if (cdr τ0 k d).length < 6 then _ else _) = _
        rw [len]
        by_cases c : d < 6
        · rw [if_pos c, if_pos (by omega)]
        · rw [if_neg c, if_neg (by omega)]
      have a7 : fl τ1 7 0 = (n64 (cdr τ0 k (d + 1))).1 := by
        rw [ca, hτ1]; split
        · rw [fl_sfs, h7]
        · rw [fl_sfn _ _ _ _ (by decide), h7]
      have a8 : fl τ1 8 0 = (n64 (cdr τ0 k (d + 1))).2 := by
        rw [ca, hτ1]; split
        · rw [fl_sfn _ _ _ _ (by decide), h8]
        · rw [fl_sfs, h8]
      have a4 : fl τ1 4 0 = k := by
        rw [hτ1]; split
        · rw [fl_sfn _ _ _ _ (by decide), h4]
        · rw [fl_sfn _ _ _ _ (by decide), h4]
      obtain ⟨e, σ', τ', q1, q2, q3, q3', q4, q5, q6⟩ := ih n n' (sf σ 188 1 (n37 (cdr τ0 k (d + 1)))) τ1 (d + 1) (by omega) (by omega) (hc.sf 188 _ (by omega)) hr1 (by rw [fl_sfn _ _ _ _ (by decide)]; exact h186) (by omega) (fun i a b => by
        by_cases c : i = k + d
        · rw [c]; exact cb
        · exact hA i a (by omega)) (fl_sfs _ _ _ _) a7 a8 a4
      rw [show k + ((d + 1 : Nat) : Int) = k + d + 1 by omega] at q4 q5
      refine ⟨e, σ', τ', by omega, q2, q3, q3', ?_, ?_, q6⟩
      · have e42 : Sc_scanName_42 N π (Sc_scanName_10 N π n) σ (k + d) = some σ' := by
          rw [Sc_scanName_42, grd_t (by exact ⟨by omega, by omega⟩), eb.1, ← eq, h188, c_longer cb', Option.bind_some, bA_sc hr]
          exact q4
        rw [Sc_scanName_10, grd_t ik, t1, t2, grd_t (by exact ⟨by omega, by omega⟩), if_pos (by omega), grd_t (by exact ⟨by omega, by omega⟩), eb.1, ← eq, c_isLetter i1, Option.bind_some]
        by_cases c : isLt (bA τ (k + d))
        · rw [if_pos c, grd_t (by decide), if_neg (by decide), e42]
        · rw [if_neg c, grd_t (by decide), if_pos rfl, c_isDigit i1, if_pos (cb'.resolve_left c), Option.bind_some, grd_t (by decide), if_neg (by decide), e42]
      · have e39 : r_lookName_39 N (r_lookName_17 N n') τ (k + d) d = some τ' := by
          have e70 : r_lookName_70 N (r_lookName_17 N n') τ (k + d) d (ncd (bA τ0 (k + d))) = some τ' := by
            rw [r_lookName_70, grd_t (by exact ⟨by omega, by omega⟩)]
            by_cases c : (d : Int) < 6
            · rw [if_pos c] at hτ1 ⊢
              rw [r_lookName_113, ← hτ1]; exact q5
            · rw [if_neg c] at hτ1 ⊢
              rw [r_lookName_113, ← hτ1]; exact q5
          rw [← bA_sc hr] at e70
          rw [r_lookName_39, rr_byteAt hT' ik, Option.bind_some, rr_isDigit i1, Option.bind_some]
          unfold ncd at e70
          by_cases c : isDg (bA τ (k + d))
          · rw [if_pos c] at e70 ⊢
            rw [grd_t (by decide), if_neg (by decide), grd_t (by exact ⟨by omega, by omega⟩)]; exact e70
          · rw [if_neg c] at e70 ⊢
            rw [grd_t (by decide), if_pos rfl, grd_t (by exact ⟨by omega, by omega⟩)]; exact e70
        rw [r_lookName_17, rr_byteAt hT' ik, Option.bind_some, rr_isLow i1, Option.bind_some]
        by_cases c : isLt (bA τ (k + d))
        · rw [if_pos c, grd_t (by decide), if_neg (by decide), e39]
        · rw [if_neg c, grd_t (by decide), if_pos rfl, rr_byteAt hT' ik, Option.bind_some, rr_isDigit i1, if_pos (cb'.resolve_left c), Option.bind_some, grd_t (by decide), if_neg (by decide), e39]
    · exact stop n n' σ τ d (by omega) (by omega) hc hr h186 (by omega) hA cb h188 h7 h8 h4
end SN
