/-! the scanner: both advance -/
abbrev isOpB (b : Int) : Prop := b = 35 ∨ b = 43 ∨ b = 45 ∨ b = 42
abbrev isSgB (b : Int) : Prop := isOpB b ∨ b = 40 ∨ b = 41 ∨ b = 38 ∨ b = 59 ∨ b = 46 ∨ b = 61
/-- the token that both stand at -/
def TKd (σ τ : St) : Prop :=
  (fl σ 185 1 = 6 ∧ fl τ 3 0 = 0 ∧ fl τ 4 0 = fl τ 1 0 ∧ fl τ 5 0 = fl τ 1 0) ∨
  (fl σ 185 1 = 10 ∧ fl τ 3 0 = 1 ∧ fl τ 5 0 = fl τ 4 0 + 1 ∧ fl τ 5 0 ≤ fl τ 1 0) ∨
  (fl σ 185 1 = 1 ∧ fl τ 3 0 = 2 ∧ ∃ e : Nat, fl τ 5 0 = fl τ 4 0 + e ∧ (1 ≤ e ∧ e ≤ 12) ∧ fl τ 5 0 ≤ fl τ 1 0 ∧ (∀ i, fl τ 4 0 ≤ i → i < fl τ 4 0 + e → isNc (bA τ i)) ∧ ¬ isNc (bA τ (fl τ 4 0 + e)) ∧ isLt (bA τ (fl τ 4 0)) ∧ fl σ 188 1 = n37 (cdr τ (fl τ 4 0) e) ∧ fl τ 7 0 = (n64 (cdr τ (fl τ 4 0) e)).1 ∧ fl τ 8 0 = (n64 (cdr τ (fl τ 4 0) e)).2) ∨
  (fl σ 185 1 = 2 ∧ fl τ 3 0 = 3 ∧ (fl τ 4 0 < fl τ 5 0 ∧ fl τ 5 0 ≤ fl τ 1 0) ∧ (fl σ 189 1 = fl τ 9 0 ∧ 0 ≤ fl τ 9 0 ∧ fl τ 9 0 ≤ 9999) ∧ fl σ 190 1 = 1) ∨
  (fl σ 185 1 = 3 ∧ fl τ 3 0 = 4 ∧ (fl τ 4 0 < fl τ 5 0 ∧ fl τ 5 0 ≤ fl τ 1 0) ∧ (fl σ 189 1 = fl τ 9 0 ∧ 0 ≤ fl τ 9 0 ∧ fl τ 9 0 ≤ 9999) ∧ fl σ 190 1 = fl τ 10 0 ∧ 0 ≤ fl τ 10 0 ∧ fl τ 10 0 ≤ 9999) ∨
  (fl σ 185 1 = 4 ∧ fl τ 3 0 = 5 ∧ (fl τ 4 0 + 2 ≤ fl τ 5 0 ∧ fl τ 5 0 ≤ fl τ 1 0) ∧ bA τ (fl τ 5 0 - 1) = 34 ∧ ∀ i, fl τ 4 0 < i → i < fl τ 5 0 - 1 → 32 ≤ bA τ i ∧ bA τ i ≤ 126 ∧ bA τ i ≠ 34) ∨
  (fl σ 185 1 = 5 ∧ fl τ 3 0 = 7 ∧ fl τ 4 0 < fl τ 1 0) ∨
  (∃ b, isSgB b ∧ fl σ 185 1 = b ∧ fl τ 3 0 = 6 ∧ fl τ 6 0 = b ∧ fl τ 5 0 = fl τ 4 0 + 1 ∧ fl τ 5 0 ≤ fl τ 1 0)
def TKr (σ τ : St) : Prop := RTp σ τ ∧ fl σ 186 1 = fl τ 4 0 ∧ fl σ 187 1 = fl τ 5 0 ∧ (0 ≤ fl τ 4 0 ∧ fl τ 4 0 ≤ fl τ 1 0) ∧ (fl τ 4 0 ≤ fl τ 5 0 ∧ fl τ 5 0 ≤ fl τ 1 0 + 1) ∧ TKd σ τ
section AD
variable {N : Nat} {π : Sh}
theorem c_isOp {b : Int} (h : i32 b) : Sc_isOp N b = some (if isOpB b then 1 else 0) := by
  rw [Sc_isOp, grd_t h]
  by_cases c1 : b = 35
  · rw [if_pos c1, if_pos (Or.inl c1)]; rfl
  · by_cases c2 : b = 43
    · rw [if_neg c1, if_pos c2, if_pos (Or.inr (Or.inl c2))]; rfl
    · by_cases c3 : b = 45
      · rw [if_neg c1, if_neg c2, if_pos c3, if_pos (Or.inr (Or.inr (Or.inl c3)))]; rfl
      · by_cases c4 : b = 42
        · rw [if_neg c1, if_neg c2, if_neg c3, if_pos c4, if_pos (Or.inr (Or.inr (Or.inr c4)))]; rfl
        · rw [if_neg c1, if_neg c2, if_neg c3, if_neg c4, if_neg (by omega)]
theorem rr_isOp {b : Int} (h : i32 b) : r_isOp N b = some (if isOpB b then 1 else 0) := by
  rw [r_isOp, grd_t h]
  by_cases c1 : b = 35
  · rw [if_pos c1, if_pos (Or.inl c1)]; rfl
  · by_cases c2 : b = 43
    · rw [if_neg c1, if_pos c2, if_pos (Or.inr (Or.inl c2))]; rfl
    · by_cases c3 : b = 45
      · rw [if_neg c1, if_neg c2, if_pos c3, if_pos (Or.inr (Or.inr (Or.inl c3)))]; rfl
      · by_cases c4 : b = 42
        · rw [if_neg c1, if_neg c2, if_neg c3, if_pos c4, if_pos (Or.inr (Or.inr (Or.inr c4)))]; rfl
        · rw [if_neg c1, if_neg c2, if_neg c3, if_neg c4, if_neg (by omega)]
theorem c_isSign {b : Int} (h : i32 b) : Sc_isSign N b = some (if isSgB b ∨ b = 10 then 1 else 0) := by
  rw [Sc_isSign, c_isOp h, Option.bind_some]
  by_cases c : isOpB b
  · rw [if_pos c, grd_t (by decide), if_neg (by decide), if_pos (Or.inl (Or.inl c))]; rfl
  · rw [if_neg c, grd_t (by decide), if_pos rfl, grd_t h]
    by_cases d : isSgB b ∨ b = 10
    · rw [if_pos d]
      rcases d with (d | d | d | d | d | d | d) | d
      · exact absurd d c
      all_goals subst d; simp [Sc_isSign_49]
    · rw [if_neg d, if_neg (by omega), if_neg (by omega), if_neg (by omega), if_neg (by omega), if_neg (by omega), if_neg (by omega), if_neg (by omega)]
theorem rr_isSign {b : Int} (h : i32 b) : r_isSignByte N b = some (if isSgB b then 1 else 0) := by
  rw [r_isSignByte, grd_t h]
  by_cases d : isSgB b
  · rw [if_pos d]
    rcases d with d | d | d | d | d | d | d
    · rw [if_neg (by omega), if_neg (by omega), if_neg (by omega), if_neg (by omega), if_neg (by omega), if_neg (by omega), rr_isOp h, if_pos d, Option.bind_some, grd_t (by decide), if_neg (by decide)]; rfl
    all_goals subst d; simp [r_isSignByte_43]
  · rw [if_neg d, if_neg (by omega), if_neg (by omega), if_neg (by omega), if_neg (by omega), if_neg (by omega), if_neg (by omega), rr_isOp h, if_neg (fun h => d (Or.inl h)), Option.bind_some, grd_t (by decide), if_pos rfl]
/-- both look from a place on -/
theorem both_look {σ τ : St} {k : Int} (hN : 3000 ≤ N) (hT : RTp σ τ) (k0 : 0 ≤ k) (k1 : k ≤ fl τ 1 0) : ∃ σ' τ', Sc_advance_8 N π N (sf σ 186 1 k) = some σ' ∧ r_look N τ k = some τ' ∧ SFc σ σ' ∧ SFr τ τ' ∧ TKr σ' τ' ∧ k ≤ fl τ' 4 0 ∧ (∀ i, k ≤ i → i < fl τ' 4 0 → bA τ i = 32) ∧ (k < fl τ 1 0 → bA τ k ≠ 32 → fl τ' 4 0 = k) := by
  have size := hT.2.2.1
  obtain ⟨j, j1, j2, j3, j4, j5, j6⟩ := both_skip (N := N) (π := π) (τ := τ) (fl τ 1 0 - k).toNat N N (sf σ 186 1 k) k (hT.at 1 k) (fl_sfs _ _ _ _) k0 (by omega) (by omega) (by omega)
  rw [sf_sf] at j5
  have jb : ∀ i, k ≤ i → i < j → bA τ i = 32 := fun i a b => by rw [bA_in ⟨by omega, by omega⟩]; exact j4 i a b
  have jk : k < fl τ 1 0 → bA τ k ≠ 32 → j = k := fun a b => by
    by_cases c : j = k
    · exact c
    · exact absurd (jb k (Int.le_refl _) (by omega)) b
  obtain ⟨σ1, hσ1⟩ : ∃ σ1, σ1 = sf (sf σ 186 1 j) 187 1 (j + 1) := ⟨_, rfl⟩
  obtain ⟨τ1, hτ1⟩ : ∃ τ1, τ1 = sf (sf τ 4 0 j) 5 0 (j + 1) := ⟨_, rfl⟩
  have c1 : SFc σ σ1 := by rw [hσ1]; exact ((SFc.rf σ).sf 186 _ (by omega)).sf 187 _ (by omega)
  have r1 : SFr τ τ1 := by rw [hτ1]; exact ((SFr.rf τ).sf 4 _ (by omega)).sf 5 _ (by omega)
  have g186 : fl σ1 186 1 = j := by rw [hσ1, fl_sfn _ _ _ _ (by decide), fl_sfs]
  have g187 : fl σ1 187 1 = j + 1 := by rw [hσ1, fl_sfs]
  have t4 : fl τ1 4 0 = j := by rw [hτ1, fl_sfn _ _ _ _ (by decide), fl_sfs]
  have t5 : fl τ1 5 0 = j + 1 := by rw [hτ1, fl_sfs]
  have hT1 := hT.sc c1 r1
  have hTc := hT.sc c1 (SFr.rf τ)
  have hTr := hT.sc (SFc.rf σ) r1
  have u1 : fl τ1 1 0 = fl τ 1 0 := r1.1 1 0 (by omega)
  have bb := bA_rg hT j
  have ij : i32 j := ⟨by omega, by omega⟩
  have ib : i32 (bA τ j) := ⟨by omega, by omega⟩
  have e186 : fl (sf σ 186 1 j) 186 1 = j := fl_sfs _ _ _ _
  have w1 : fl σ1 181 1 = fl τ 1 0 := hTc.1
  -- how both go on
  have cadv : Sc_advance_8 N π N (sf σ 186 1 k) = if j < fl τ 1 0 then (if isLt (bA τ j) then Sc_scanName N π σ1 else if isDg (bA τ j) then Sc_scanCount N π σ1 else if bA τ j = 34 then Sc_scanText N π σ1 else some (sf σ1 185 1 (if isSgB (bA τ j) ∨ bA τ j = 10 then bA τ j else 5))) else some (sf (sf σ1 185 1 6) 187 1 j) := by
    rw [j5, Sc_advance_46, bnd, e186, ← hσ1, c_byteAt hTc ij, Option.bind_some]
    simp only
    rw [g186, grd_t ij, w1, grd_t (by exact ⟨by omega, by omega⟩)]
    by_cases c0 : j < fl τ 1 0
    · rw [if_pos c0, if_pos c0, c_isLetter ib, Option.bind_some]
      by_cases c2 : isLt (bA τ j)
      · rw [if_pos c2, if_pos c2, grd_t (by decide), if_neg (by decide), bsm]
      · rw [if_neg c2, if_neg c2, grd_t (by decide), if_pos rfl, c_isDigit ib, Option.bind_some]
        by_cases c3 : isDg (bA τ j)
        · rw [if_pos c3, if_pos c3, grd_t (by decide), if_neg (by decide), bsm]
        · rw [if_neg c3, if_neg c3, grd_t (by decide), if_pos rfl, grd_t ib]
          by_cases c4 : bA τ j = 34
          · rw [if_pos c4, if_pos c4, bsm]
          · rw [if_neg c4, if_neg c4, c_isSign ib, Option.bind_some]
            by_cases c5 : isSgB (bA τ j) ∨ bA τ j = 10
            · rw [if_pos c5, if_pos c5, grd_t (by decide), if_neg (by decide)]; rfl
            · rw [if_neg c5, if_neg c5, grd_t (by decide), if_pos rfl]; rfl
    · rw [if_neg c0, if_neg c0]
  have radv : r_look N τ k = if j < fl τ 1 0 then (if bA τ j = 10 then some (sf τ1 3 0 1) else if isLt (bA τ j) then r_lookName N τ1 else if isDg (bA τ j) then r_lookNumber N τ1 else if bA τ j = 34 then r_lookText N τ1 else some (if isSgB (bA τ j) then sf (sf τ1 3 0 6) 6 0 (bA τ j) else sf τ1 3 0 7)) else some (sf (sf τ1 3 0 0) 5 0 (fl τ 1 0)) := by
    rw [r_look, j6, r_look_27, bnd, ← hτ1, rr_byteAt hTr ij, Option.bind_some, grd_t ij]
    simp only
    rw [u1, grd_t (by exact ⟨by omega, by omega⟩), bA_sc r1]
    by_cases c0 : j < fl τ 1 0
    · rw [if_pos c0, if_pos c0, grd_t ib]
      by_cases c1 : bA τ j = 10
      · rw [if_pos c1, if_pos c1]
      · rw [if_neg c1, if_neg c1, rr_isLow ib, Option.bind_some]
        by_cases c2 : isLt (bA τ j)
        · rw [if_pos c2, if_pos c2, grd_t (by decide), if_neg (by decide), bsm]
        · rw [if_neg c2, if_neg c2, grd_t (by decide), if_pos rfl, rr_isDigit ib, Option.bind_some]
          by_cases c3 : isDg (bA τ j)
          · rw [if_pos c3, if_pos c3, grd_t (by decide), if_neg (by decide), bsm]
          · rw [if_neg c3, if_neg c3, grd_t (by decide), if_pos rfl]
            by_cases c4 : bA τ j = 34
            · rw [if_pos c4, if_pos c4, bsm]
            · rw [if_neg c4, if_neg c4, rr_isSign ib, Option.bind_some]
              by_cases c5 : isSgB (bA τ j)
              · rw [if_pos c5, if_pos c5, grd_t (by decide), if_neg (by decide)]
              · rw [if_neg c5, if_neg c5, grd_t (by decide), if_pos rfl]
    · rw [if_neg c0, if_neg c0]
  rw [cadv, radv]
  by_cases c0 : j < fl τ 1 0
  · rw [if_pos c0, if_pos c0]
    by_cases c10 : bA τ j = 10
    · rw [if_pos c10, if_neg (by omega), if_neg (by omega), if_neg (by omega), if_pos (Or.inr c10)]
      have q1 := c1.sf 185 (bA τ j) (by omega)
      have q2 := r1.sf 3 1 (by omega)
      refine ⟨_, _, rfl, rfl, q1, q2, ⟨hT.sc q1 q2, by rw [fl_sfn _ _ _ _ (by decide), fl_sfn _ _ _ _ (by decide), g186, t4], by rw [fl_sfn _ _ _ _ (by decide), fl_sfn _ _ _ _ (by decide), g187, t5], ?_, ?_, Or.inr (Or.inl ⟨by rw [fl_sfs, c10], fl_sfs _ _ _ _, ?_, ?_⟩)⟩, ?_, ?_, ?_⟩
      · rw [fl_sfn _ _ _ _ (by decide), fl_sfn _ _ _ _ (by decide), t4, u1]; omega
      · rw [fl_sfn _ _ _ _ (by decide), fl_sfn _ _ _ _ (by decide), fl_sfn _ _ _ _ (by decide), t4, t5, u1]; omega
      · rw [fl_sfn _ _ _ _ (by decide), fl_sfn _ _ _ _ (by decide), t4, t5]
      · rw [fl_sfn _ _ _ _ (by decide), fl_sfn _ _ _ _ (by decide), t5, u1]; omega
      · rw [fl_sfn _ _ _ _ (by decide), t4]; omega
      · rw [fl_sfn _ _ _ _ (by decide), t4]; exact jb
      · rw [fl_sfn _ _ _ _ (by decide), t4]; exact jk
    · rw [if_neg c10]
      by_cases c2 : isLt (bA τ j)
      · rw [if_pos c2, if_pos c2, Sc_scanName, r_lookName, t4, g186]
        have z188 : fl (sf σ1 188 1 0) 186 1 = j := by rw [fl_sfn _ _ _ _ (by decide)]; exact g186
        have q1 : SFc σ (sf σ1 188 1 0) := c1.sf 188 0 (by omega)
        have q2 : SFr τ (sf (sf τ1 7 0 0) 8 0 0) := (r1.sf 7 0 (by omega)).sf 8 0 (by omega)
        obtain ⟨e, σ', τ', n1, n2, n3, n3', n4, n5, n6, n7, n8, n9, n10, n11, n12, n13, n14, n15, n16⟩ := both_name (N := N) (π := π) (σ0 := sf σ1 188 1 0) (τ0 := τ) (k := j) (hT.sc q1 (SFr.rf τ)) (by omega) z188 (fl τ 1 0 - j).toNat N N (sf σ1 188 1 0) (sf (sf τ1 7 0 0) 8 0 0) 0 (by omega) (by omega) (SFc.rf _) q2 z188 (by omega) (fun i a b => by omega) (fl_sfs _ _ _ _) (by rw [fl_sfn _ _ _ _ (by decide), fl_sfs]; rfl) (by rw [fl_sfs]; rfl) (by rw [fl_sfn _ _ _ _ (by decide), fl_sfn _ _ _ _ (by decide)]; exact t4)
        rw [show j + ((0 : Nat) : Int) = j by omega] at n4 n5
        have e1 : 1 ≤ e := by
          by_cases c : e = 0
          · subst c
            rw [show j + ((0 : Nat) : Int) = j by omega] at n3'
            exact absurd (Or.inl c2) n3'
          · omega
        refine ⟨σ', τ', n4, n5, q1.tr n6, n7, ⟨hT.sc (q1.tr n6) n7, by rw [n8, n12], by rw [n9, n13], ?_, ?_, ?_⟩, by omega, by rw [n12]; exact jb, by rw [n12]; exact jk⟩
        · rw [n12, n7.1 1 0 (by omega)]; omega
        · rw [n12, n13, n7.1 1 0 (by omega)]; omega
        · by_cases c12 : 12 < (e : Int)
          · rw [if_pos c12] at n10 n14
            exact Or.inr (Or.inr (Or.inr (Or.inr (Or.inr (Or.inr (Or.inl ⟨n10, n14, by rw [n12, n7.1 1 0 (by omega)]; omega⟩))))))
          · rw [if_neg c12] at n10 n14
            refine Or.inr (Or.inr (Or.inl ⟨n10, n14, e, by rw [n12, n13], ⟨e1, by omega⟩, by rw [n13, n7.1 1 0 (by omega)]; exact n2, ?_, ?_, ?_, ?_, ?_, ?_⟩))
            · rw [n12]; intro i a b; rw [bA_sc n7]; exact n3 i a b
            · rw [n12, bA_sc n7]; exact n3'
            · rw [n12, bA_sc n7]; exact c2
            · rw [n12, cdr_sc n7]; exact n11
            · rw [n12, cdr_sc n7]; exact n15
            · rw [n12, cdr_sc n7]; exact n16
      · rw [if_neg c2, if_neg c2]
        by_cases c3 : isDg (bA τ j)
        · rw [if_pos c3, if_pos c3]
          obtain ⟨σ', τ', x, n1, n2, n3, n4, n5, n6, n7, n8, n9, n10⟩ := both_count (N := N) (π := π) (k := j) hN hT1 (by omega) (by omega) (by rw [bA_sc r1]; exact c3) g186 t4
          have q1 := c1.tr n3
          have q2 := r1.tr n4
          have v1 : fl τ' 1 0 = fl τ 1 0 := q2.1 1 0 (by omega)
          rw [u1] at n7
          refine ⟨σ', τ', n1, n2, q1, q2, ⟨hT.sc q1 q2, by rw [n5, n6], by rw [n8, n9], by omega, by omega, ?_⟩, by omega, by rw [n6]; exact jb, by rw [n6]; exact jk⟩
          rcases n10 with ⟨a, b⟩ | ⟨a, b, c, d⟩ | ⟨a, b, c, d, e, f⟩
          · exact Or.inr (Or.inr (Or.inr (Or.inr (Or.inr (Or.inr (Or.inl ⟨a, b, by omega⟩))))))
          · exact Or.inr (Or.inr (Or.inr (Or.inl ⟨a, b, by omega, c, d⟩)))
          · exact Or.inr (Or.inr (Or.inr (Or.inr (Or.inl ⟨a, b, by omega, c, d, e, f⟩))))
        · rw [if_neg c3, if_neg c3]
          by_cases c4 : bA τ j = 34
          · rw [if_pos c4, if_pos c4, Sc_scanText, r_lookText, g186, t4, bnd, bnd]
            obtain ⟨x, m1, m2, m3, m4, m5, m6⟩ := both_text (N := N) (π := π) hT1 (fl τ 1 0 - (j + 1)).toNat N N (j + 1) (by omega) (by rw [u1]; omega) (by omega) (by omega)
            rw [bA_sc r1] at m5 m6
            rw [u1] at m2
            have q1 := (c1.sf 187 (x + 1) (by omega)).sf 185 (if bA τ x = 34 then 4 else 5) (by omega)
            have q2 := (r1.sf 3 (if bA τ x = 34 then 5 else 7) (by omega)).sf 5 (x + 1) (by omega)
            have a4 : fl (sf (sf τ1 3 0 (if bA τ x = 34 then 5 else 7)) 5 0 (x + 1)) 4 0 = j := by rw [fl_sfn _ _ _ _ (by decide), fl_sfn _ _ _ _ (by decide)]; exact t4
            have a5 : fl (sf (sf τ1 3 0 (if bA τ x = 34 then 5 else 7)) 5 0 (x + 1)) 5 0 = x + 1 := fl_sfs _ _ _ _
            have a1 : fl (sf (sf τ1 3 0 (if bA τ x = 34 then 5 else 7)) 5 0 (x + 1)) 1 0 = fl τ 1 0 := by rw [fl_sfn _ _ _ _ (by decide), fl_sfn _ _ _ _ (by decide)]; exact u1
            have a3 : fl (sf (sf τ1 3 0 (if bA τ x = 34 then 5 else 7)) 5 0 (x + 1)) 3 0 = if bA τ x = 34 then 5 else 7 := by rw [fl_sfn _ _ _ _ (by decide), fl_sfs]
            refine ⟨_, _, m5, m6, q1, q2, ⟨hT.sc q1 q2, by rw [a4, fl_sfn _ _ _ _ (by decide), fl_sfn _ _ _ _ (by decide)]; exact g186, by rw [a5, fl_sfn _ _ _ _ (by decide), fl_sfs], by omega, by omega, ?_⟩, by omega, by rw [a4]; exact jb, by rw [a4]; exact jk⟩
            by_cases cx : bA τ x = 34
            · have xs : x < fl τ 1 0 := by
                by_cases c : x < fl τ 1 0
                · exact c
                · have : bA τ x = 0 := by unfold bA; rw [if_neg (by omega)]
                  omega
              refine Or.inr (Or.inr (Or.inr (Or.inr (Or.inr (Or.inl ⟨by rw [fl_sfs, if_pos cx], by rw [a3, if_pos cx], by omega, ?_, fun i h1 h2 => ?_⟩)))))
              · rw [a5, bA_sc q2, show x + 1 - 1 = x by omega]; exact cx
              · rw [a4] at h1
                rw [a5] at h2
                rw [bA_sc q2, bA_in ⟨by omega, by omega⟩]
                have := m3 i (by omega) (by omega)
                rw [r1.2] at this
                exact this
            · exact Or.inr (Or.inr (Or.inr (Or.inr (Or.inr (Or.inr (Or.inl ⟨by rw [fl_sfs, if_neg cx], by rw [a3, if_neg cx], by omega⟩))))))
          · rw [if_neg c4, if_neg c4]
            by_cases c5 : isSgB (bA τ j)
            · rw [if_pos (Or.inl c5), if_pos c5]
              have q1 := c1.sf 185 (bA τ j) (by omega)
              have q2 := (r1.sf 3 6 (by omega)).sf 6 (bA τ j) (by omega)
              have a4 : fl (sf (sf τ1 3 0 6) 6 0 (bA τ j)) 4 0 = j := by rw [fl_sfn _ _ _ _ (by decide), fl_sfn _ _ _ _ (by decide)]; exact t4
              have a5 : fl (sf (sf τ1 3 0 6) 6 0 (bA τ j)) 5 0 = j + 1 := by rw [fl_sfn _ _ _ _ (by decide), fl_sfn _ _ _ _ (by decide)]; exact t5
              have a1 : fl (sf (sf τ1 3 0 6) 6 0 (bA τ j)) 1 0 = fl τ 1 0 := by rw [fl_sfn _ _ _ _ (by decide), fl_sfn _ _ _ _ (by decide)]; exact u1
              exact ⟨_, _, rfl, rfl, q1, q2, ⟨hT.sc q1 q2, by rw [a4, fl_sfn _ _ _ _ (by decide)]; exact g186, by rw [a5, fl_sfn _ _ _ _ (by decide)]; exact g187, by omega, by omega, Or.inr (Or.inr (Or.inr (Or.inr (Or.inr (Or.inr (Or.inr ⟨bA τ j, c5, fl_sfs _ _ _ _, by rw [fl_sfn _ _ _ _ (by decide), fl_sfs], fl_sfs _ _ _ _, by omega, by omega⟩))))))⟩, by omega, by rw [a4]; exact jb, by rw [a4]; exact jk⟩
            · rw [if_neg (by omega), if_neg c5]
              have q1 := c1.sf 185 5 (by omega)
              have q2 := r1.sf 3 7 (by omega)
              have a4 : fl (sf τ1 3 0 7) 4 0 = j := by rw [fl_sfn _ _ _ _ (by decide)]; exact t4
              have a5 : fl (sf τ1 3 0 7) 5 0 = j + 1 := by rw [fl_sfn _ _ _ _ (by decide)]; exact t5
              have a1 : fl (sf τ1 3 0 7) 1 0 = fl τ 1 0 := by rw [fl_sfn _ _ _ _ (by decide)]; exact u1
              exact ⟨_, _, rfl, rfl, q1, q2, ⟨hT.sc q1 q2, by rw [a4, fl_sfn _ _ _ _ (by decide)]; exact g186, by rw [a5, fl_sfn _ _ _ _ (by decide)]; exact g187, by omega, by omega, Or.inr (Or.inr (Or.inr (Or.inr (Or.inr (Or.inr (Or.inl ⟨fl_sfs _ _ _ _, fl_sfs _ _ _ _, by omega⟩))))))⟩, by omega, by rw [a4]; exact jb, by rw [a4]; exact jk⟩
  · rw [if_neg c0, if_neg c0]
    have q1 := (c1.sf 185 6 (by omega)).sf 187 j (by omega)
    have q2 := (r1.sf 3 0 (by omega)).sf 5 (fl τ 1 0) (by omega)
    have a4 : fl (sf (sf τ1 3 0 0) 5 0 (fl τ 1 0)) 4 0 = j := by rw [fl_sfn _ _ _ _ (by decide), fl_sfn _ _ _ _ (by decide)]; exact t4
    have a5 : fl (sf (sf τ1 3 0 0) 5 0 (fl τ 1 0)) 5 0 = fl τ 1 0 := fl_sfs _ _ _ _
    have a1 : fl (sf (sf τ1 3 0 0) 5 0 (fl τ 1 0)) 1 0 = fl τ 1 0 := by rw [fl_sfn _ _ _ _ (by decide), fl_sfn _ _ _ _ (by decide)]; exact u1
    exact ⟨_, _, rfl, rfl, q1, q2, ⟨hT.sc q1 q2, by rw [a4, fl_sfn _ _ _ _ (by decide), fl_sfn _ _ _ _ (by decide)]; exact g186, by rw [a5, fl_sfs]; omega, by omega, by omega, Or.inl ⟨by rw [fl_sfn _ _ _ _ (by decide), fl_sfs], by rw [fl_sfn _ _ _ _ (by decide), fl_sfs], by omega, by omega⟩⟩, by omega, by rw [a4]; exact jb, by rw [a4]; exact jk⟩
/-- both advance -/
theorem both_advance {σ τ : St} (hN : 3000 ≤ N) (h : TKr σ τ) (hb : fl σ 185 1 ≠ 5) : ∃ σ' τ', Sc_advance N π σ = some σ' ∧ r_advance N τ = some τ' ∧ SFc σ σ' ∧ SFr τ τ' ∧ TKr σ' τ' ∧ fl τ 5 0 ≤ fl τ' 4 0 ∧ (fl σ 185 1 = 6 ∨ fl τ 4 0 + 1 ≤ fl τ' 4 0) ∧ (fl σ 185 1 = 1 → fl σ' 185 1 = 1 → fl τ 4 0 + 2 ≤ fl τ' 4 0) := by
  obtain ⟨h1, h2, h3, h4, h5, h6⟩ := id h
  have e5 : fl τ 5 0 ≤ fl τ 1 0 := by rcases h6 with h | h | ⟨_, _, e, h⟩ | h | h | h | h | ⟨b, h⟩ <;> omega
  have e4 : fl σ 185 1 = 6 ∨ fl τ 4 0 + 1 ≤ fl τ 5 0 := by rcases h6 with h | h | ⟨_, _, e, h⟩ | h | h | h | h | ⟨b, h⟩ <;> omega
  obtain ⟨σ', τ', q1, q2, q3, q4, q5, q6, q7, q8⟩ := both_look (N := N) (π := π) hN h1 (k := fl τ 5 0) (by omega) e5
  refine ⟨σ', τ', by rw [Sc_advance, h3]; exact q1, by rw [r_advance, q2]; rfl, q3, q4, q5, q6, by omega, fun a b => ?_⟩
  by_cases c : fl τ 5 0 + 1 ≤ fl τ' 4 0
  · omega
  · have e : fl τ' 4 0 = fl τ 5 0 := by omega
    -- a name right behind a name
    exfalso
    obtain ⟨-, -, -, -, -, k6⟩ := q5
    have kn : isLt (bA τ' (fl τ' 4 0)) := by
      rcases k6 with h | h | ⟨_, _, x, _, _, _, _, _, h, _⟩ | h | h | h | h | ⟨x, h, h', _⟩
      · omega
      · omega
      · exact h
      · omega
      · omega
      · omega
      · omega
      · omega
    rw [bA_sc q4, e] at kn
    rcases h6 with h | h | ⟨_, _, x, y1, y2, y3, y4, y5, _⟩ | h | h | h | h | ⟨x, h, h', _⟩
    · omega
    · omega
    · rw [← y1] at y5; exact y5 (Or.inl kn)
    · omega
    · omega
    · omega
    · omega
    · omega
end AD
