/-! behind a step of a text: is there another one -/
abbrev stP (b : Int) : Prop := isLt b ∨ isDg b ∨ b = 45 ∨ b = 126 ∨ b = 91 ∨ b = 60 ∨ b = 123
section TN1
variable {N : Nat} {Xo : Int → Prop}
theorem c_starts {b : Int} (h : i32 b) : Tx_startsPart N b = some (if stP b then 1 else 0) := by
  rw [Tx_startsPart, c_isLetter h, Option.bind_some]
  by_cases c1 : isLt b
  · rw [if_pos c1, if_pos (show stP b from Or.inl c1)]; rfl
  rw [if_neg c1, grd_t (by decide), if_pos rfl, c_isDigit h, Option.bind_some]
  by_cases c2 : isDg b
  · rw [if_pos c2, if_pos (show stP b from Or.inr (Or.inl c2))]; rfl
  rw [if_neg c2, grd_t (by decide), if_pos rfl, grd_t h]
  by_cases c3 : stP b
  · rw [if_pos c3]
    unfold stP at c3
    rcases c3 with q | q | q | q | q | q | q
    · exact absurd q c1
    · exact absurd q c2
    · rw [if_pos q]; rfl
    · rw [if_neg (by omega), if_pos q]; rfl
    · rw [if_neg (by omega), if_neg (by omega), if_pos q]; rfl
    · rw [if_neg (by omega), if_neg (by omega), if_neg (by omega), if_pos q]; rfl
    · rw [if_neg (by omega), if_neg (by omega), if_neg (by omega), if_neg (by omega), if_pos q]; rfl
  · rw [if_neg c3]
    unfold stP at c3
    rw [if_neg (by omega), if_neg (by omega), if_neg (by omega), if_neg (by omega), if_neg (by omega)]
theorem r_118 {σ τ τ1 : St} {d x b : Int} (hT : RTp σ τ1) (h1 : r_skip N τ = some τ1) (hb : bA τ1 (fl τ1 2 0) = b) (h2 : 0 ≤ fl τ1 2 0 ∧ fl τ1 2 0 ≤ 2000) (hd : inb d 600) (hx : x = 0 ∨ x = 1) (h41 : 0 ≤ fl τ1 41 0 ∧ fl τ1 41 0 < 600) : r_readSeq_118 N τ d x = some (if x = 1 ∧ stP b then nwF τ1 11 (-1) 0 else sf (sf τ1 46 0 (el τ1 73 d)) 41 0 (fl τ1 41 0 - 1)) := by
  have bb := bA_rg hT (fl τ1 2 0)
  have bi : i32 b := by rw [← hb]; exact ⟨by omega, by omega⟩
  have e180 : r_readSeq_180 N τ1 = some (nwF τ1 11 (-1) 0) := by rw [r_readSeq_180, r_begin' h41, Option.bind_some]
  have e189 : r_readSeq_189 N τ1 d = some (sf (sf τ1 46 0 (el τ1 73 d)) 41 0 (fl τ1 41 0 - 1)) := by rw [r_readSeq_189, grd_t hd, r_finish', Option.bind_some]
  rw [r_readSeq_118, h1, Option.bind_some, rr_byteAt hT (by exact ⟨by omega, by omega⟩), hb, Option.bind_some]
  simp only
  rcases hx with rfl | rfl
  · rw [grd_t (by decide), if_pos rfl, if_neg (fun h => absurd h.1 (by decide)), e189]
  rw [grd_t (by decide), if_neg (by decide), rr_isLow bi, Option.bind_some]
  by_cases c1 : isLt b
  · rw [if_pos c1, if_pos (show (1 : Int) = 1 ∧ stP b from ⟨rfl, Or.inl c1⟩), grd_t (by decide), if_neg (show ¬ (1 : Int) = 0 by decide), e180]
  rw [if_neg c1, grd_t (by decide), if_pos rfl, rr_isDigit bi, Option.bind_some]
  by_cases c2 : isDg b
  · rw [if_pos c2, if_pos (show (1 : Int) = 1 ∧ stP b from ⟨rfl, Or.inr (Or.inl c2)⟩), grd_t (by decide), if_neg (show ¬ (1 : Int) = 0 by decide), e180]
  rw [if_neg c2, grd_t (by decide), if_pos rfl, grd_t bi]
  by_cases c3 : stP b
  · rw [if_pos (show (1 : Int) = 1 ∧ stP b from ⟨rfl, c3⟩)]
    unfold stP at c3
    rcases c3 with q | q | q | q | q | q | q
    · exact absurd q c1
    · exact absurd q c2
    · rw [if_pos q, e180]
    · rw [if_neg (by omega), if_pos q, e180]
    · rw [if_neg (by omega), if_neg (by omega), if_pos q, e180]
    · rw [if_neg (by omega), if_neg (by omega), if_neg (by omega), if_pos q, e180]
    · rw [if_neg (by omega), if_neg (by omega), if_neg (by omega), if_neg (by omega), if_pos q, e180]
  · rw [if_neg (show ¬ ((1 : Int) = 1 ∧ stP b) from fun h => c3 h.2)]
    unfold stP at c3
    rw [if_neg (show ¬ b = 45 by omega), if_neg (show ¬ b = 126 by omega), if_neg (show ¬ b = 91 by omega), if_neg (show ¬ b = 60 by omega), if_neg (show ¬ b = 123 by omega), e189]
/-- both, behind a step -/
theorem seq_turn {π : Sh} {σ τ : St} {D P st cl d r c s x3 : Int} {L : List Stq} {Kn : List Int} {rP : Sh → St → Option (Sh × St × Int)} {rc : Sh → St → Int → Int → Int → Option (Sh × St)} (hN : 3000 ≤ N) (h : XSb Xo π σ τ D P L Kn st cl) (hF : fl τ 41 0 = d + 1 ∧ (0 ≤ d ∧ d + 1 < 600) ∧ el τ 72 d = 1 ∧ el τ 73 d = r ∧ fl τ 46 0 = c) (hr : inb r 32768 ∧ inb c 32768) (h86 : el τ 87 r = -1 ∨ inb (el τ 86 r) 32768) (h87 : i32 (el τ 87 r)) : ∃ k g, (g = 0 ∨ g = 1) ∧ Tx_steps_73 N rP rc π σ s x3 = rc π (sf σ 222 50 k) s g (x3 + 1) ∧ rdK N 10 τ d = some (if g = 1 then nwF (sf (apN τ r c) 2 0 k) 11 (-1) 0 else sf (sf (sf (apN τ r c) 2 0 k) 46 0 r) 41 0 d) ∧ XS Xo π (sf σ 222 50 k) (sf τ 2 0 k) D P L Kn st cl ∧ fl τ 2 0 ≤ k ∧ bA τ k ≠ 32 := by
  obtain ⟨k, s1, s2, s3, s4, s5, s6⟩ := h.skip (N := N) hN
  obtain ⟨y1, y2, y3⟩ := h.2
  have xt := h.t
  have size := xt.1.2.2.1
  have b0 := xt.2.1
  have bb := bA_rg xt.1
  have bi : ∀ i, i32 (bA τ i) := fun i => by have := bb i; exact ⟨by omega, by omega⟩
  obtain ⟨σ1, hσ1⟩ : ∃ σ1, σ1 = sf σ 222 50 k := ⟨_, rfl⟩
  rw [← hσ1] at s1 s3
  have at1 : fl σ1 222 50 = k := by rw [hσ1, fl_sfs]
  have xb1 := s3.2.1
  have b1 : ∀ i, bA (sf τ 2 0 k) i = bA τ i := fun i => bA_rd ((RDr.rf 0 0 τ).sf 2 _ (by omega)) i
  -- the class
  have cls : Tx_steps_73 N rP rc π σ s x3 = rc π σ1 s (if stP (bA τ k) ∧ bA τ (k - 1) = 32 then 1 else 0) (x3 + 1) := by
    rw [Tx_steps_73, s1, Option.bind_some, s3.2.2.2.1.1, grd_t (by decide), if_pos rfl, c_here xb1, at1, b1, Option.bind_some]
    simp only
    rw [c_starts (bi k), Option.bind_some]
    by_cases c1 : stP (bA τ k)
    · rw [if_pos c1, grd_t (by decide), if_neg (by decide), at1, c_byteAt xb1.1 (by exact ⟨by omega, by omega⟩), Option.bind_some]
      simp only
      rw [b1, grd_t (bi _)]
      by_cases c2 : bA τ (k - 1) = 32
      · rw [if_pos c2, if_pos ⟨c1, c2⟩, Tx_steps_120]
      · rw [if_neg c2, if_neg (fun h => c2 h.2), Tx_steps_119, Tx_steps_120]
    · rw [if_neg c1, grd_t (by decide), if_pos rfl, if_neg (fun h => c1 h.1), Tx_steps_119, Tx_steps_120]
  -- the reference
  obtain ⟨t1, ht1⟩ : ∃ t1, t1 = apN τ r c := ⟨_, rfl⟩
  have f1 : ∀ f i, fl t1 f i = fl τ f i := fun f i => by rw [ht1, apN_fl]
  have b2 : ∀ i, bA t1 i = bA τ i := fun i => by
    unfold bA
    rw [f1, ht1, apN_el _ _ _ _ _ (by omega)]
  have T1 : RTp σ t1 := by
    obtain ⟨p, q, w, z⟩ := xt.1
    unfold RTp
    rw [f1]
    exact ⟨p, q, w, fun j j0 j1 => by rw [ht1, apN_el _ _ _ _ _ (by omega)]; exact z j j0 j1⟩
  have xt1 : XB σ t1 st cl := ⟨T1, by rw [f1]; exact xt.2.1, by rw [b2]; exact xt.2.2.1, fun i a b => by rw [b2]; exact xt.2.2.2 i a b⟩
  have sk : r_skip N t1 = some (sf t1 2 0 k) := by
    have x' : XB (sf σ 222 50 (fl τ 2 0)) t1 st cl := xt1.xf ((XFc.rf σ).at _) (XFr.rf t1) (by rw [fl_sfs]; exact y1) (by rw [fl_sfs]; omega)
    have e := r_skip' (N := N) hN x' (by rw [fl_sfs, f1])
    obtain ⟨p1, p2, p3, p4⟩ := nb_in x'
    rw [fl_sfs] at e p1 p2 p3 p4
    have : nb t1 cl (fl τ 2 0) = k := by
      rcases Int.lt_trichotomy (nb t1 cl (fl τ 2 0)) k with c | c | c
      · rw [b2] at p3; exact absurd (s6 _ p1 c) p3
      · exact c
      · have := p4 k (by omega) c; rw [b2] at this; exact absurd this s5
    rw [e, this]
  have T2 : RTp σ (sf t1 2 0 k) := T1.xf (XFc.rf σ) ((XFr.rf t1).at k)
  have b3 : bA (sf t1 2 0 k) (fl (sf t1 2 0 k) 2 0) = bA τ k := by
    rw [fl_sfs, bA_rd ((RDr.rf 0 0 t1).sf 2 _ (by omega)), b2]
  have e73 : el (sf t1 2 0 k) 73 d = r := by rw [el_sf, ht1, apN_el _ _ _ _ _ (by omega)]; exact hF.2.2.2.1
  have e41 : fl (sf t1 2 0 k) 41 0 = d + 1 := by rw [fl_sfn _ _ _ _ (by decide), f1]; exact hF.1
  have db : inb d 600 := ⟨by omega, by omega⟩
  have r118 : ∀ x, (x = 0 ∨ x = 1) → r_readSeq_118 N t1 d x = some (if x = 1 ∧ stP (bA τ k) then nwF (sf t1 2 0 k) 11 (-1) 0 else sf (sf (sf t1 2 0 k) 46 0 r) 41 0 d) := fun x hx => by
    have := r_118 (N := N) (x := x) (d := d) T2 sk b3 (by rw [fl_sfs]; omega) db hx (by rw [e41]; omega)
    rw [e73, e41, show d + 1 - 1 = d by omega] at this
    exact this
  -- the blank
  have bl : (bA τ (fl τ 2 0 - 1) = 32 ∨ bA τ (fl τ 2 0) = 32) ↔ bA τ (k - 1) = 32 := by
    by_cases ck : k = fl τ 2 0
    · rw [ck] at s5 ⊢
      constructor
      · rintro (q | q)
        · exact q
        · exact absurd q s5
      · exact Or.inl
    · constructor
      · intro _; exact s6 _ (by omega) (by omega)
      · intro _; exact Or.inr (s6 _ (by omega) (by omega))
  have ref : rdK N 10 τ d = some (if stP (bA τ k) ∧ bA τ (k - 1) = 32 then nwF (sf t1 2 0 k) 11 (-1) 0 else sf (sf (sf t1 2 0 k) 46 0 r) 41 0 d) := by
    have e : rdK N 10 τ d = r_readSeq N τ d := by unfold rdK; simp
    rw [e, r_readSeq, grd_t db, hF.2.2.1, grd_t (by decide), if_neg (by decide), hF.2.2.2.1, hF.2.2.2.2, r_append' hr.1 hr.2 h86 h87, Option.bind_some, ← ht1, f1, rr_byteAt T1 (by exact ⟨by omega, by omega⟩), Option.bind_some]
    simp only
    rw [b2, grd_t (bi _)]
    by_cases c1 : bA τ (fl τ 2 0 - 1) = 32
    · rw [if_pos c1, r_readSeq_113, r118 1 (Or.inr rfl)]
      by_cases c2 : stP (bA τ k)
      · rw [if_pos ⟨rfl, c2⟩, if_pos ⟨c2, bl.1 (Or.inl c1)⟩]
      · rw [if_neg (fun h => c2 h.2), if_neg (fun h => c2 h.1)]
    · rw [if_neg c1, f1, rr_byteAt T1 (by exact ⟨by omega, by omega⟩), Option.bind_some]
      simp only
      rw [b2, grd_t (bi _)]
      by_cases c3 : bA τ (fl τ 2 0) = 32
      · rw [if_pos c3, r_readSeq_113, r118 1 (Or.inr rfl)]
        by_cases c2 : stP (bA τ k)
        · rw [if_pos ⟨rfl, c2⟩, if_pos ⟨c2, bl.1 (Or.inr c3)⟩]
        · rw [if_neg (fun h => c2 h.2), if_neg (fun h => c2 h.1)]
      · rw [if_neg c3, r118 0 (Or.inl rfl), if_neg (fun h => absurd h.1 (by decide)), if_neg (fun h => by rcases bl.2 h.2 with q | q; exact c1 q; exact c3 q)]
  refine ⟨k, if stP (bA τ k) ∧ bA τ (k - 1) = 32 then 1 else 0, by split <;> simp, by rw [cls, hσ1], ?_, by rw [← hσ1]; exact s3, by omega, s5⟩
  rw [ref, ← ht1]
  by_cases c : stP (bA τ k) ∧ bA τ (k - 1) = 32
  · rw [if_pos c, if_pos c, if_pos rfl]
  · rw [if_neg c, if_neg c, if_neg (by decide)]
end TN1
