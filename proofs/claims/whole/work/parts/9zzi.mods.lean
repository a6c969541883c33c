/-! the changes behind a part, one after another -/
section MD
variable {N : Nat} {Xo : Int → Prop}
/-- both a little further on in the text -/
theorem XS.at {π : Sh} {σ τ : St} {D P st cl k : Int} {L : List Stq} {Kn : List Int} (h : XS Xo π σ τ D P L Kn st cl) (hk : fl σ 222 50 ≤ k ∧ k ≤ cl) : XS Xo π (sf σ 222 50 k) (sf τ 2 0 k) D P L Kn st cl := by
  obtain ⟨x1, x2, x3, ⟨x4, x4'⟩, x5, x6, x7, x8, x9⟩ := id h
  have b := x2.2.1
  have hc : XFc σ (sf σ 222 50 k) := (XFc.rf σ).at k
  have hr : XFr τ (sf τ 2 0 k) := (XFr.rf τ).at k
  have f : ∀ (g : Nat) (i : Int), ¬ (g = 222 ∧ i = 50) → fl (sf σ 222 50 k) g i = fl σ g i := fun g i hx => by rw [fl_sf, if_neg hx]
  have f' : ∀ (g : Nat) (i : Int), g ≠ 2 → fl (sf τ 2 0 k) g i = fl τ g i := fun g i hx => fl_sfn _ _ _ _ hx
  refine ⟨x1, x2.xf hc hr (by rw [fl_sfs]; omega) (by rw [fl_sfs]; omega), by rw [fl_sfs, fl_sfs], ⟨by rw [f 182 1 (by omega)]; exact x4, by rw [f' 11 0 (by decide)]; exact x4'⟩, by rw [f 184 1 (by omega), f' 13 0 (by decide)]; exact x5, by rw [f 224 50 (by omega), f' 47 0 (by decide), fl_sfs]; omega, by rw [f 221 50 (by omega)]; exact x7, x8.st (TX.rd ((RDr.rf 0 0 τ).xf hr)) (fun g i y z => f g i (by omega)) (fun _ _ => rfl), by rw [f' 16 0 (by decide)]; exact x9⟩
/-- the same, the reference perhaps before blanks that the class has passed -/
def XSb (Xo : Int → Prop) (π : Sh) (σ τ : St) (D P : Int) (L : List Stq) (Kn : List Int) (st cl : Int) : Prop := XS Xo π σ (sf τ 2 0 (fl σ 222 50)) D P L Kn st cl ∧ st ≤ fl τ 2 0 ∧ fl τ 2 0 ≤ fl σ 222 50 ∧ ∀ i, fl τ 2 0 ≤ i → i < fl σ 222 50 → bA τ i = 32
theorem XS.xb {π : Sh} {σ τ : St} {D P st cl : Int} {L : List Stq} {Kn : List Int} (h : XS Xo π σ τ D P L Kn st cl) : XSb Xo π σ τ D P L Kn st cl := by
  have e := h.2.2.1
  have b := h.2.1.2.1
  refine ⟨by rw [← e, sf_id rfl]; exact h, by omega, by omega, fun i a b => by omega⟩
theorem XSb.t {π : Sh} {σ τ : St} {D P st cl : Int} {L : List Stq} {Kn : List Int} (h : XSb Xo π σ τ D P L Kn st cl) : XB σ τ st cl := by
  obtain ⟨x, -⟩ := h
  have hr : XFr (sf τ 2 0 (fl σ 222 50)) τ := ⟨fun f i a _ _ _ => (fl_sfn _ _ _ _ a).symm, fun _ _ => rfl⟩
  have b := x.2.1.2.1
  exact x.2.1.xf (XFc.rf σ) hr b.2.2.1 b.2.2.2.1
/-- blanks are skipped, both -/
theorem XSb.skip {π : Sh} {σ τ : St} {D P st cl : Int} {L : List Stq} {Kn : List Int} (hN : 3000 ≤ N) (h : XSb Xo π σ τ D P L Kn st cl) : ∃ k, Tx_skipBlanks N π σ = some (sf σ 222 50 k) ∧ r_skip N τ = some (sf τ 2 0 k) ∧ XS Xo π (sf σ 222 50 k) (sf τ 2 0 k) D P L Kn st cl ∧ (fl σ 222 50 ≤ k ∧ k ≤ cl) ∧ bA τ k ≠ 32 ∧ ∀ i, fl τ 2 0 ≤ i → i < k → bA τ i = 32 := by
  have xb := h.t
  obtain ⟨x, y1, y2, y3⟩ := h
  have b := xb.2.1
  obtain ⟨q1, q2, q3, q4⟩ := nb_in xb
  have xb' : XB (sf σ 222 50 (fl τ 2 0)) τ st cl := xb.xf ((XFc.rf σ).at _) (XFr.rf τ) (by rw [fl_sfs]; exact y1) (by rw [fl_sfs]; omega)
  obtain ⟨p1, p2, p3, p4⟩ := nb_in xb'
  rw [fl_sfs] at p1 p2 p3 p4
  have e : nb τ cl (fl τ 2 0) = nb τ cl (fl σ 222 50) := by
    rcases Int.lt_trichotomy (nb τ cl (fl τ 2 0)) (nb τ cl (fl σ 222 50)) with c | c | c
    · exact absurd (by
        by_cases z : nb τ cl (fl τ 2 0) < fl σ 222 50
        · exact y3 _ p1 z
        · exact q4 _ (by omega) c) p3
    · exact c
    · exact absurd (p4 _ (by omega) c) q3
  have r := r_skip' (N := N) hN xb' (by rw [fl_sfs])
  rw [fl_sfs, e] at r
  refine ⟨nb τ cl (fl σ 222 50), c_skip hN xb, r, ?_, ⟨q1, q2⟩, q3, fun i a z => ?_⟩
  · have := x.at (k := nb τ cl (fl σ 222 50)) ⟨q1, q2⟩
    rw [sf_sf] at this
    exact this
  · by_cases c : i < fl σ 222 50
    · exact y3 i a c
    · exact q4 i (by omega) z
/-- how the changes end -/
def MDo (Xo : Int → Prop) (N : Nat) (D P : Int) (L : List Stq) (Kn : List Int) (st cl lo d j : Int) (seg : List Stq) (u v : Int) (k : Nat) (π : Sh) (σ τ : St) (π' : Sh) (σ' τ' : St) (o' n' : Int) : Prop := XFt (fl σ 23 D) π σ π' σ' ∧ RDr lo d τ τ' ∧ fl τ' 41 0 = fl τ 41 0 ∧
  ((FLT σ' τ' ∧ (∃ L', XC Xo π' σ' τ' D P L' Kn st cl ∧ (L'.length : Int) ≤ L.length + (cl - fl σ 222 50)) ∧ ((0 ≤ fl τ' 16 0 ∧ fl τ' 16 0 < 32768) ∧ (lo ≤ n' ∧ n' < fl τ' 16 0)) ∧ RmX (fl σ 23 D) π σ π' σ' (4 * (cl - fl σ 222 50)) (40 * (cl - fl σ 222 50))) ∨
   ∃ (seg' : List Stq) (c : Nat), XSb Xo π' σ' τ' D P (L ++ seg') Kn st cl ∧ seg'.length = c ∧ fl τ' 13 0 = fl τ 13 0 ∧ (lo ≤ n' ∧ n' < fl τ' 16 0) ∧ fl τ' 16 0 = fl τ 16 0 + c ∧ (20 ≤ el τ' 94 n' ∧ el τ' 94 n' ≤ 31 ∧ el τ' 94 n' ≠ 24) ∧ TXq N τ' lo (fl τ' 16 0) P j (seg ++ seg') n' o' (u + c) v (k + 2 * c) ∧ fl τ 2 0 + c ≤ fl τ' 2 0 ∧ RmX (fl σ 23 D) π σ π' σ' (4 * c) (40 * c))
theorem XFt.d23 {π π' : Sh} {σ σ' τ : St} {D P : Int} {L : List Stq} {Kn : List Int} (h : XFt (fl σ 23 D) π σ π' σ') (b : BDy Xo π σ τ D P L Kn) : fl σ' 23 D = fl σ 23 D := by
  obtain ⟨e1, -⟩ := b.b
  exact h.2.1 23 D e1.2 (by omega) (by omega) (by omega)
set_option maxHeartbeats 4000000 in
theorem mods_lp {D P st cl lo d j : Int} {Kn : List Int} (hN : 30000001 ≤ N) (hlo0 : 0 ≤ lo) : ∀ (m n n' : Nat) (π : Sh) (σ τ : St) (L seg : List Stq) (o nd u v x3 : Int) (k : Nat), cl - fl σ 222 50 ≤ m → m + 2 ≤ n → m + 2 ≤ n' → XSb Xo π σ τ D P L Kn st cl → 0 ≤ x3 ∧ x3 + m ≤ 1998 → (L.length : Int) + m ≤ 19000 ∧ (L.length : Int) = j + seg.length → fl τ 16 0 + m + 3 ≤ 32768 → lo ≤ nd ∧ nd < fl τ 16 0 → TXq N τ lo (fl τ 16 0) P j seg nd o u v k → 1 ≤ u ∧ 1 ≤ v → (20 ≤ el τ 94 nd ∧ el τ 94 nd ≤ 31 ∧ el τ 94 nd ≠ 24) → ∃ π' σ' τ' o' nd', Tx_mods_4 N n π σ o x3 = some (π', σ', o') ∧ r_readStep_32 N n' τ nd 1 = r_readStep_121 N τ' nd' ∧ MDo Xo N D P L Kn st cl lo d j seg u v k π σ τ π' σ' τ' o' nd'
  | _, 0, _, _, _, _, _, _, _, _, _, _, _, _, _, h, _, _, _, _, _, _, _, _, _ => absurd h (by omega)
  | _, _, 0, _, _, _, _, _, _, _, _, _, _, _, _, _, h, _, _, _, _, _, _, _, _ => absurd h (by omega)
  | m, n + 1, n' + 1, π, σ, τ, L, seg, o, nd, u, v, x3, k, hm, hn, hn', h, hx3, hL, h16, hnd, ht, huv, h94 => by
    have N3 : 3000 ≤ N := by omega
    obtain ⟨q, s1, s2, s3, s4, s5, s6⟩ := h.skip (N := N) N3
    have xb0 := h.t
    have hB := h.2
    have hXS0 := h.1
    obtain ⟨σ1, hσ1⟩ : ∃ σ1, σ1 = sf σ 222 50 q := ⟨_, rfl⟩
    obtain ⟨τ1, hτ1⟩ : ∃ τ1, τ1 = sf τ 2 0 q := ⟨_, rfl⟩
    rw [← hσ1, ← hτ1] at s3
    rw [← hσ1] at s1
    rw [← hτ1] at s2
    have xb1 := s3.2.1
    have at1 : fl σ1 222 50 = q := by rw [hσ1, fl_sfs]
    have at1' : fl τ1 2 0 = q := by rw [hτ1, fl_sfs]
    have f1 : ∀ (g : Nat) (i : Int), g ≠ 2 → fl τ1 g i = fl τ g i := fun g i hx => by rw [hτ1]; exact fl_sfn _ _ _ _ hx
    have e1 : ∀ a i, el τ1 a i = el τ a i := fun a i => by rw [hτ1]; rfl
    have g1 : ∀ (g : Nat) (i : Int), ¬ (g = 222 ∧ i = 50) → fl σ1 g i = fl σ g i := fun g i hx => by rw [hσ1, fl_sf, if_neg hx]
    have z182 : fl σ 182 1 = 0 := by rw [← g1 182 1 (by omega)]; exact s3.2.2.2.1.1
    have z11 : fl τ 11 0 = 0 := by rw [← f1 11 0 (by decide)]; exact s3.2.2.2.1.2
    have size := xb1.1.2.2.1
    have bb := bA_rg xb1.1 q
    have bi : i32 (bA τ1 q) := ⟨by omega, by omega⟩
    have bd0 : BDy Xo π σ1 τ1 D P L Kn := s3.2.2.2.2.2.2.2.1
    have k23 : fl σ1 23 D = fl σ 23 D := g1 23 D (by omega)
    have he : Tx_here N π σ1 = some (σ1, bA τ1 q) := by rw [c_here xb1, at1]
    have hr : r_byteAt N τ1 (fl τ1 2 0) = some (τ1, bA τ1 q) := by rw [at1', rr_byteAt xb1.1 (by have := xb1.2.1; exact ⟨by omega, by omega⟩)]
    have ht1 : TXq N τ1 lo (fl τ1 16 0) P j seg nd o u v k := by
      rw [f1 16 0 (by decide)]
      exact ht.cg (fun a i _ _ _ _ _ => e1 a i) ⟨Int.le_refl _, Int.le_refl _⟩ ⟨Int.le_refl _, Int.le_refl _, Nat.le_refl _⟩
    have x50 : fl σ 23 D ≠ 1 ∧ fl σ 23 D ≠ 50 := by have := bd0.b.2.1; rw [k23] at this; omega
    have ft1 : XFt (fl σ 23 D) π σ π σ1 := (XFt.rf _ π σ).xf (by rw [hσ1]; exact (XFc.rf σ).at _) x50
    have rd1 : RDr lo d τ τ1 := by rw [hτ1]; exact (RDr.rf lo d τ).xf ((XFr.rf τ).at _)
    have cp1 : RmX (fl σ 23 D) π σ π σ1 0 0 := by
      have : cpc π σ1 (fl σ 23 D) = cpc π σ (fl σ 23 D) := by unfold cpc; rw [g1 1 _ (by omega)]
      exact ⟨by omega, by omega⟩
    -- one change, then the rest
    have go : ∀ π2 σ2 τ2 o2 n2, q < cl → CHo Xo N D P L Kn st cl lo d j seg u v k π σ1 τ1 π2 σ2 τ2 o2 n2 → ∃ π' σ' τ' o' nd', Tx_mods_4 N n π2 σ2 o2 (x3 + 1) = some (π', σ', o') ∧ r_readStep_32 N n' τ2 n2 1 = r_readStep_121 N τ' nd' ∧ MDo Xo N D P L Kn st cl lo d j seg u v k π σ τ π' σ' τ' o' nd' := by
      intro π2 σ2 τ2 o2 n2 hq hc
      obtain ⟨c1, c2, c3, c4⟩ := hc
      rw [k23] at c1 c4
      have ft2 : XFt (fl σ 23 D) π σ π2 σ2 := ft1.tr c1
      have rd2 : RDr lo d τ τ2 := rd1.tr c2 (Int.le_refl _) (Int.le_refl _)
      have h41 : fl τ2 41 0 = fl τ 41 0 := by rw [c3, f1 41 0 (by decide)]
      rcases c4 with ⟨y1, ⟨L', y2, y3⟩, y4, y5⟩ | ⟨x, y1, y2, y3, y4, y5, y6, y7, y8⟩
      · have q1 : fl σ2 182 1 ≠ 0 := by have := y1.1; have := y1.2.2; omega
        have q2 : i32 (fl σ2 182 1) := by have := y1.1; have := y1.2.2; exact ⟨by omega, by omega⟩
        have q3 : fl τ2 11 0 ≠ 0 := by have := y1.2.2; omega
        have q4 : i32 (fl τ2 11 0) := by have := y1.2.2; exact ⟨by omega, by omega⟩
        have hh := f1 16 0 (by decide)
        refine ⟨π2, σ2, τ2, o2, n2, ?_, ?_, ft2, rd2, h41, Or.inl ⟨y1, ⟨L', y2, by omega⟩, ⟨⟨y4.1, by omega⟩, y4.2.2⟩, (cp1.tr y5).mono (by omega) (by omega)⟩⟩
        · obtain ⟨n1, rfl⟩ : ∃ n1, n = n1 + 1 := ⟨n - 1, by omega⟩
          rw [Tx_mods_4, grd_t (by exact ⟨by omega, by omega⟩), if_pos (by omega), grd_t q2, if_neg q1]
        · obtain ⟨n1, rfl⟩ : ∃ n1, n' = n1 + 1 := ⟨n' - 1, by omega⟩
          rw [r_readStep_32, grd_t (by decide), if_neg (by decide), grd_t q4, if_neg q3]
      · have z := y1.2.2.1
        have zb := y1.2.1.2.1
        have hh := f1 16 0 (by decide)
        have d2 : fl σ2 23 D = fl σ 23 D := by
          have := c1.2.1 23 D bd0.b.1.2 (by have := bd0.b.1.1; omega) (by have := bd0.b.1.1; omega) (by omega)
          rw [this, k23]
        have len : ((L ++ [x]).length : Int) = L.length + 1 := by simp
        have len2 : ((seg ++ [x]).length : Int) = seg.length + 1 := by simp
        obtain ⟨m1, rfl⟩ : ∃ m1, m = m1 + 1 := ⟨m - 1, by omega⟩
        obtain ⟨π', σ', τ', o', nd', r1, r2, r3, r4, r5, r6⟩ := mods_lp hN hlo0 m1 n n' π2 σ2 τ2 (L ++ [x]) (seg ++ [x]) o2 n2 (u + 1) v (x3 + 1) (k + 2) (by omega) (by omega) (by omega) y1.xb ⟨by omega, by omega⟩ ⟨by omega, by omega⟩ (by omega) ⟨by omega, by omega⟩ y6 ⟨by omega, by omega⟩ ⟨by omega, by omega, by omega⟩
        rw [d2] at r3 r6
        refine ⟨π', σ', τ', o', nd', r1, r2, ft2.tr r3, rd2.tr r4 (Int.le_refl _) (Int.le_refl _), by rw [r5, h41], ?_⟩
        rcases r6 with ⟨w1, ⟨L', w2, w3⟩, w4, w5⟩ | ⟨sg, c, w1, w2, w3, w4, w5, w6, w7, w8, w9⟩
        · exact Or.inl ⟨w1, ⟨L', w2, by omega⟩, w4, ((cp1.tr y8).tr w5).mono (by omega) (by omega)⟩
        · refine Or.inr ⟨x :: sg, c + 1, ?_, by simp [w2], by rw [w3, y2, f1 13 0 (by decide)], w4, by rw [w5, y4, hh]; omega, w6, ?_, by omega, ((cp1.tr y8).tr w9).mono (by omega) (by omega)⟩
          · rw [List.append_assoc] at w1; exact w1
          · rw [List.append_assoc] at w7
            exact w7.cg (fun _ _ _ _ _ _ _ => rfl) ⟨Int.le_refl _, Int.le_refl _⟩ ⟨by omega, Int.le_refl _, by omega⟩
    have hL1 : L.length ≤ 19000 ∧ (L.length : Int) = j + seg.length := ⟨by omega, hL.2⟩
    have hn1 : fl τ1 16 0 + 3 ≤ 32768 := by rw [f1 16 0 (by decide)]; omega
    have hlo1 : 0 ≤ lo ∧ lo ≤ nd ∧ nd < fl τ1 16 0 := by rw [f1 16 0 (by decide)]; exact ⟨hlo0, hnd⟩
    have cls : ∀ X, (if bA τ1 q = 42 then Tx_mods_51 N (Tx_mods_4 N n) π σ1 o x3 q (bA τ1 q) else if bA τ1 q = 47 then Tx_mods_51 N (Tx_mods_4 N n) π σ1 o x3 q (bA τ1 q) else if bA τ1 q = 40 then Option.bind (Tx_euclid N π σ1 o) (fun r22 => Tx_mods_134 N (Tx_mods_4 N n) r22.1 r22.2.1 x3 r22.2.2) else if bA τ1 q = 63 then Tx_mods_162 N (Tx_mods_4 N n) (nO π 10 14) (zO (sf σ1 222 50 (q + 1)) (nn π) dfl) o x3 q (nn π) (fl σ1 221 50) else some (π, σ1, o)) = X → Tx_mods_4 N (n + 1) π σ o x3 = X := fun X hX => by
      rw [Tx_mods_4, grd_t (by exact ⟨by omega, by omega⟩), if_pos (by omega), z182, grd_t (by decide), if_pos rfl, s1, Option.bind_some, he, Option.bind_some]
      simp only
      rw [grd_t bi, at1, bnd]
      exact hX
    have rch : (bA τ1 q = 42 ∨ bA τ1 q = 47 ∨ bA τ1 q = 40 ∨ bA τ1 q = 63) → ∀ τ2 n2, r_readChange N τ1 (bA τ1 q) nd = some (τ2, n2) → r_readStep_32 N (n' + 1) τ nd 1 = r_readStep_32 N n' τ2 n2 1 := fun hc τ2 n2 hch => by
      have e91 : r_readStep_91 N (r_readStep_32 N n') τ1 nd (fl τ 2 0) (bA τ1 q) = r_readStep_32 N n' τ2 n2 1 := by
        rw [r_readStep_91, r_readStep_96, grd_t (by decide), if_neg (by decide), hch, Option.bind_some, r_readStep_118]
      rw [r_readStep_32, grd_t (by decide), if_neg (by decide), z11, grd_t (by decide), if_pos rfl, s2, Option.bind_some, hr, Option.bind_some]
      simp only
      rw [grd_t bi, e91]
      rcases hc with c | c | c | c
      · rw [if_pos c]
      · rw [if_pos c, ite_self]
      · rw [if_pos c, ite_self, ite_self]
      · rw [if_pos c, ite_self, ite_self, ite_self]
    have qcl : bA τ1 q ≠ 34 → q < cl := fun hne => by
      by_cases c : q < cl
      · exact c
      · exact absurd (by rw [show q = cl by omega]; exact xb1.2.2.1) hne
    by_cases c1 : bA τ1 q = 42 ∨ bA τ1 q = 47
    · obtain ⟨π2, σ2, τ2, p1, p2, p3⟩ := ch_fast (N := N) (d := d) (rc := Tx_mods_4 N n) (x3 := x3) (sg := bA τ1 q) hN s3 hL1 hn1 hlo1 ht1 huv c1 (by rw [at1])
      obtain ⟨π', σ', τ', o', nd', r1, r2, r3⟩ := go π2 σ2 τ2 _ _ (qcl (by omega)) p3
      refine ⟨π', σ', τ', o', nd', cls _ ?_, ?_, r3⟩
      · rw [at1] at p1
        rw [p1, r1]
        rcases c1 with c | c
        · rw [if_pos c]
        · rw [if_pos c, ite_self]
      · rw [rch (by omega) _ _ p2, r2]
    by_cases c2 : bA τ1 q = 40
    · obtain ⟨π2, σ2, τ2, o2, n2, p1, p2, p3⟩ := ch_euclid (N := N) (d := d) hN s3 hL1 hn1 hlo1 ht1 huv (by rw [at1]; exact c2)
      obtain ⟨π', σ', τ', o', nd', r1, r2, r3⟩ := go π2 σ2 τ2 _ _ (qcl (by omega)) p3
      refine ⟨π', σ', τ', o', nd', cls _ ?_, ?_, r3⟩
      · rw [if_neg (by omega), if_neg (by omega), if_pos c2, p1, Option.bind_some, Tx_mods_134, Tx_mods_203, r1]
      · rw [rch (by omega) _ _ (by rw [c2]; exact p2), r2]
    by_cases c3 : bA τ1 q = 63
    · obtain ⟨π2, σ2, τ2, p1, p2, p3⟩ := ch_maybe (N := N) (d := d) (rc := Tx_mods_4 N n) (x3 := x3) hN s3 hL1 hn1 hlo1 ht1 huv (by rw [at1]; exact c3)
      obtain ⟨π', σ', τ', o', nd', r1, r2, r3⟩ := go π2 σ2 τ2 _ _ (qcl (by omega)) p3
      refine ⟨π', σ', τ', o', nd', cls _ ?_, ?_, r3⟩
      · rw [at1] at p1
        rw [if_neg (by omega), if_neg (by omega), if_neg c2, if_pos c3, s3.2.2.2.2.2.2.1, p1, r1]
      · rw [rch (by omega) _ _ (by rw [c3]; exact p2), r2]
    · -- no change
      have et : sf τ1 2 0 (fl τ 2 0) = τ := by rw [hτ1, sf_sf, sf_id rfl]
      refine ⟨π, σ1, τ, o, nd, cls _ ?_, ?_, ft1, RDr.rf _ _ _, rfl, Or.inr ⟨[], 0, ⟨by rw [at1, ← hτ1, List.append_nil]; exact s3, hB.1, by omega, fun i a b => s6 i a (by omega)⟩, rfl, rfl, hnd, by omega, h94, by rw [List.append_nil]; exact ht.cg (fun _ _ _ _ _ _ _ => rfl) ⟨Int.le_refl _, Int.le_refl _⟩ ⟨by omega, Int.le_refl _, by omega⟩, by omega, cp1.mono (by omega) (by omega)⟩⟩
      · rw [if_neg (by omega), if_neg (by omega), if_neg c2, if_neg c3]
      · rw [r_readStep_32, grd_t (by decide), if_neg (by decide), z11, grd_t (by decide), if_pos rfl, s2, Option.bind_some, hr, Option.bind_some]
        simp only
        rw [grd_t bi, if_neg (by omega), if_neg (by omega), if_neg c2, if_neg c3, r_readStep_96, grd_t (by decide), if_pos rfl, r_readStep_118, et]
        obtain ⟨n1, rfl⟩ : ∃ n1, n' = n1 + 1 := ⟨n' - 1, by omega⟩
        rw [r_readStep_32, grd_t (by decide), if_pos rfl]
end MD
