/-! chains of pieces, groups: both -/
section AP7
variable {N : Nat} {rA : Sh → St → Int → Int → Int → Option (Sh × St × Int)}
/-- as APs, of several tasks -/
def APl (N : Nat) (D P vlo lo hi : Int) (m k : Nat) (w z A Bw : Int) (Uo : Stq → Prop) (av ts : List (Int × Int)) (c s0 s1 ex : Int) (π : Sh) (σ τ : St) (run : Sh → St → Int → Option (Sh × St × Int)) : Prop :=
  ∀ (Xo : Int → Prop) (π' : Sh) (σ' τ' : St) (L : List Stq) (Kn : List Int) (oi : Int), PFx s0 s1 ex π σ π' σ' → SHs π' → BDy Xo π' σ' τ' D P L Kn → L.length + m ≤ 20000 → (∀ a i : Int, 85 ≤ a → a ≤ 94 → lo ≤ i → i < hi → ¬ (a = 85 ∧ i = c) → el τ' a i = el τ a i) → ∃ π'' σ'' seg o, run π' σ' oi = some (π'', σ'', o) ∧ ADo Xo D P L Kn π' σ' τ' seg π'' σ'' A Bw ∧ seg.length ≤ m ∧ (∀ y ∈ seg, y.1 = 99 → Uo y) ∧ ∀ x : Nat, x ≤ 12 → TKS N (UDl N x) (12 - x) τ' vlo lo hi P Kn L.length seg (HLv (13 - x) + w) (HLv (13 - x) + z) k 0 0 ts [oi] [o] av []
theorem APs.l {D P vlo lo hi w z A Bw wk c s0 s1 ex : Int} {m k : Nat} {Uo : Stq → Prop} {av : List (Int × Int)} {π : Sh} {σ τ : St} {run : Sh → St → Int → Option (Sh × St × Int)} : APs N D P vlo lo hi m k w z A Bw Uo av wk c s0 s1 ex π σ τ run ↔ APl N D P vlo lo hi m k w z A Bw Uo av [(wk, c)] c s0 s1 ex π σ τ run := Iff.rfl
/-- at a later state -/
theorem APl.at {D P vlo lo hi w z A Bw c s0 s1 ex : Int} {m k : Nat} {Uo : Stq → Prop} {av ts : List (Int × Int)} {π π1 : Sh} {σ τ σ1 τ1 : St} {run : Sh → St → Int → Option (Sh × St × Int)} (h : APl N D P vlo lo hi m k w z A Bw Uo av ts c s0 s1 ex π σ τ run) (h1 : PFx s0 s1 ex π σ π1 σ1) (h2 : ∀ a i : Int, 85 ≤ a → a ≤ 94 → lo ≤ i → i < hi → ¬ (a = 85 ∧ i = c) → el τ1 a i = el τ a i) : APl N D P vlo lo hi m k w z A Bw Uo av ts c s0 s1 ex π1 σ1 τ1 run := by
  intro Xo π' σ' τ' L Kn oi a1 a2 a3 a4 a5
  exact h Xo π' σ' τ' L Kn oi (h1.tr a1) a2 a3 a4 (fun a i x1 x2 x3 x4 x5 => (a5 a i x1 x2 x3 x4 x5).trans (h2 a i x1 x2 x3 x4 x5))
theorem APs.at {D P vlo lo hi w z A Bw wk c s0 s1 ex : Int} {m k : Nat} {Uo : Stq → Prop} {av : List (Int × Int)} {π π1 : Sh} {σ τ σ1 τ1 : St} {run : Sh → St → Int → Option (Sh × St × Int)} (h : APs N D P vlo lo hi m k w z A Bw Uo av wk c s0 s1 ex π σ τ run) (h1 : PFx s0 s1 ex π σ π1 σ1) (h2 : ∀ a i : Int, 85 ≤ a → a ≤ 94 → lo ≤ i → i < hi → ¬ (a = 85 ∧ i = c) → el τ1 a i = el τ a i) : APs N D P vlo lo hi m k w z A Bw Uo av wk c s0 s1 ex π1 σ1 τ1 run := APl.at (ts := [(wk, c)]) h h1 h2
/-- with more room -/
theorem APl.mono {D P vlo lo hi w z A Bw c s0 s1 ex lo' hi' w' z' A' Bw' s0' s1' ex' : Int} {m k m' k' : Nat} {Uo : Stq → Prop} {av av' ts : List (Int × Int)} {π : Sh} {σ τ : St} {run : Sh → St → Int → Option (Sh × St × Int)} (h : APl N D P vlo lo hi m k w z A Bw Uo av ts c s0 s1 ex π σ τ run) (hl : lo' ≤ lo ∧ hi ≤ hi') (hm : m ≤ m') (hk : k ≤ k') (hw : w ≤ w' ∧ z ≤ z') (hA : A ≤ A' ∧ Bw ≤ Bw') (hs : s0' ≤ s0 ∧ s1 ≤ s1') (hx : s0 ≤ ex' → ex' < s1 → ex' = ex) (hv : ∀ x ∈ av, x ∈ av') : APl N D P vlo lo' hi' m' k' w' z' A' Bw' Uo av' ts c s0' s1' ex' π σ τ run := by
  intro Xo π' σ' τ' L Kn oi a1 a2 a3 a4 a5
  obtain ⟨π2, σ2, seg, o, q1, q2, q3, q4, q5⟩ := h Xo π' σ' τ' L Kn oi (a1.sub hs.1 hs.2 hx) a2 a3 (by omega) (fun a i x1 x2 x3 x4 x5 => a5 a i x1 x2 (by omega) (by omega) x5)
  exact ⟨π2, σ2, seg, o, q1, q2.mono hA.1 hA.2, by omega, q4, fun x hx => (q5 x hx).mono hk hl.1 hl.2 (fun _ _ _ _ _ _ => rfl) (List.prefix_refl _) (by omega) (by omega) (Int.le_refl _) (Int.le_refl _) hv (fun _ hx => hx)⟩
theorem ADo.rf {Xo : Int → Prop} {D P : Int} {L : List Stq} {Kn : List Int} {π : Sh} {σ τ : St} (hS : SHs π) (hb : BDy Xo π σ τ D P L Kn) : ADo Xo D P L Kn π σ τ [] π σ 0 0 := ⟨XGt.rf _ _ _, by rw [List.append_nil]; exact hb, ⟨by omega, by omega⟩, hS⟩
/-- a chain from the piece fc on -/
def CHa (N : Nat) (rA : Sh → St → Int → Int → Int → Option (Sh × St × Int)) (D P vlo lo hi : Int) (m k : Nat) (w z A Bw : Int) (Uo : Stq → Prop) (av ts : List (Int × Int)) (c s0 s1 : Int) (π : Sh) (σ τ : St) (fc : Int) : Prop :=
  ∀ (n : Nat) (i : Int), ts.length < n → 0 ≤ i → i + ts.length < 2000 → APl N D P vlo lo hi m k w z A Bw Uo av ts c s0 s1 (-1) π σ τ (fun π σ p => Pc_applyAll_8 N rA n π σ D p fc i)
theorem CHa.none {D P vlo lo hi c s0 s1 : Int} {Uo : Stq → Prop} {π : Sh} {σ τ : St} : CHa N rA D P vlo lo hi 0 0 0 0 0 0 Uo [] [] c s0 s1 π σ τ (-1) := by
  intro n i h1 h2 h3 Xo π' σ' τ' L Kn oi a1 a2 a3 a4 a5
  obtain ⟨n, rfl⟩ : ∃ q, n = q + 1 := ⟨n - 1, by simp only [List.length_nil] at h1; omega⟩
  simp only [List.length_nil] at h3
  refine ⟨π', σ', [], oi, ?_, ADo.rf a2 a3, by simp, fun y hy => absurd hy (by simp), fun x hx => TKS.nil⟩
  show Pc_applyAll_8 N rA (n + 1) π' σ' D oi (-1) i = _
  unfold Pc_applyAll_8
  rw [grd_t (by exact ⟨by omega, by omega⟩), if_pos (by omega), if_pos (by omega)]
theorem CHa.at {D P vlo lo hi w z A Bw c s0 s1 fc : Int} {m k : Nat} {Uo : Stq → Prop} {av ts : List (Int × Int)} {π π1 : Sh} {σ τ σ1 τ1 : St} (h : CHa N rA D P vlo lo hi m k w z A Bw Uo av ts c s0 s1 π σ τ fc) (h1 : PFx s0 s1 (-1) π σ π1 σ1) (h2 : ∀ a i : Int, 85 ≤ a → a ≤ 94 → lo ≤ i → i < hi → ¬ (a = 85 ∧ i = c) → el τ1 a i = el τ a i) : CHa N rA D P vlo lo hi m k w z A Bw Uo av ts c s0 s1 π1 σ1 τ1 fc := fun n i a b d => (h n i a b d).at h1 h2
/-- a piece before a chain -/
theorem CHa.cons {D P vlo lo hi w z c s0 s1 fc lo1 hi1 w1 z1 A1 B1 pc t0 t1 u0 u1 lo2 hi2 w2 z2 A2 B2 c0 : Int} {m1 k1 m2 k2 : Nat} {Uo : Stq → Prop} {av1 av2 ts : List (Int × Int)} {π : Sh} {σ τ : St} (hP : P ≤ 4) (hA : APs N D P vlo lo1 hi1 m1 k1 w1 z1 A1 B1 Uo av1 11 c t0 t1 pc π σ τ (fun π σ p => rA π σ pc D p)) (hB : CHa N rA D P vlo lo2 hi2 m2 k2 w2 z2 A2 B2 Uo av2 ts c0 u0 u1 π σ τ fc) (ho : ob π pc 6) (h127 : fl σ 127 pc = fc) (hs : t0 ≤ pc ∧ pc < t1) (hr : (s0 ≤ u0 ∧ u1 ≤ s1) ∧ (s0 ≤ t0 ∧ t1 ≤ s1) ∧ s1 ≤ nn π) (hl : (lo ≤ lo1 ∧ hi1 ≤ hi) ∧ (lo ≤ lo2 ∧ hi2 ≤ hi) ∧ (hi2 ≤ lo1)) (hc : lo1 ≤ c) (hav : ∀ x ∈ av2, vlo ≤ x.1 ∧ ¬ (lo1 ≤ x.1 ∧ x.1 < hi1)) (hw : w1 + ts.length ≤ w ∧ w2 ≤ w) (hz : z1 ≤ z ∧ z2 ≤ z) (h0 : 0 ≤ s0) : CHa N rA D P vlo lo hi (m1 + m2) (k1 + k2) w z (A1 + A2) (B1 + B2) Uo (av1 ++ av2) ((11, c) :: ts) c s0 s1 π σ τ pc := by
  intro n i h1 h2 h3 Xo π' σ' τ' L Kn oi a1 a2 a3 a4 a5
  have hlen : ((11, c) :: ts).length = ts.length + 1 := rfl
  obtain ⟨n, rfl⟩ : ∃ q, n = q + 1 := ⟨n - 1, by omega⟩
  have ng := a1.1.1
  obtain ⟨π1, σ1, seg1, o1, q1, q2, q3, q4, q5⟩ := hA Xo π' σ' τ' L Kn oi (a1.sub hr.2.1.1 hr.2.1.2 (fun x y => by omega)) a2 a3 (by omega) (fun a i x1 x2 x3 x4 x5 => a5 a i x1 x2 (by omega) (by omega) x5)
  have pf : PFx s0 s1 (-1) π' σ' π1 σ1 := PFx.ft a3 q2.1 (by omega)
  obtain ⟨π2, σ2, seg2, o2, v1, v2, v3, v4, v5⟩ := hB n (i + 1) (by omega) (by omega) (by omega) Xo π1 σ1 τ' (L ++ seg1) Kn o1 ((a1.tr pf).sub hr.1.1 hr.1.2 (fun x y => by omega)) q2.2.2.2 q2.2.1 (by rw [List.length_append]; omega) (fun a i x1 x2 x3 x4 x5 => a5 a i x1 x2 (by omega) (by omega) (by omega))
  refine ⟨π2, σ2, seg1 ++ seg2, o2, ?_, q2.tr a3 v2, by rw [List.length_append]; omega, fun y hy h9 => ?_, fun x hx => ?_⟩
  · show Pc_applyAll_8 N rA (n + 1) π' σ' D oi pc i = _
    unfold Pc_applyAll_8
    have ho1 := ho.ext a1.1
    rw [grd_t (by exact ⟨by omega, by omega⟩), if_pos (by omega), if_neg (by have := ho.1; omega)]
    have q1' : rA π' σ' pc D oi = some (π1, σ1, o1) := q1
    rw [q1', Option.bind_some, grd_t ho1]
    unfold Pc_applyAll_28
    have e : fl σ1 127 pc = fc := by
      rw [pf.2.1 127 pc (by omega) (by omega) (by omega) (by omega) (by omega), a1.2.1 127 pc (by omega) (by omega) (by omega) (by omega) (by omega), h127]
    show grd (ob π1 pc 6) (Pc_applyAll_8 N rA n π1 σ1 D o1 (fl σ1 127 pc) (i + 1)) = _
    rw [grd_t (ho1.ext pf.1), e]
    exact v1
  · rcases List.mem_append.1 hy with hy | hy
    · exact q4 y hy h9
    · exact v4 y hy h9
  · have t1 := q5 x hx
    have t2 := v5 x hx
    have t := TKS.sq (lo := lo) (hi := hi) (u := HLv (13 - x) + w) (v := HLv (13 - x) + z) (k := k1 + k2) (e := 0) (δ := 0) (avq := av1 ++ av2) (avp := []) (t1.mono (Nat.le_refl _) (Int.le_refl _) (Int.le_refl _) (fun _ _ _ _ _ _ => rfl) (List.prefix_refl _) (Int.le_refl _) (Int.le_refl _) (Int.le_refl _) (Int.le_refl _) (fun y hy => List.mem_append.2 (Or.inl hy)) (fun _ hy => hy)) t2 hP (by rw [List.length_append]; omega) hl.1 hl.2.1 (by omega) (by omega) (Nat.le_refl _) (by omega) (by omega) (fun y hy => Or.inr ⟨List.mem_append.2 (Or.inr hy), hav y hy⟩) (fun y hy => absurd hy (by simp))
    exact t
/-- a FUN in brackets -/
theorem APs.all {D P vlo lo hi lo1 hi1 w z A Bw n c s0 s1 ex fc : Int} {m k : Nat} {cs : List Int} {Uo : Stq → Prop} {av : List (Int × Int)} {π : Sh} {σ τ : St} (hN : 30000001 ≤ N) (hP : P ≤ 4) (hn : ND lo hi n) (h94 : el τ 94 n = 11) (hch : CHn τ lo1 hi1 cs (el τ 87 n)) (hl : lo ≤ lo1 ∧ hi1 ≤ hi ∧ n < lo1) (hlen : cs.length < 2000) (hw : 0 ≤ w) (hB : CHa N rA D P vlo lo1 hi1 m k w z A Bw Uo av (cs.reverse.map (fun c => (11, c))) c s0 s1 π σ τ fc) (hx : s0 ≤ ex → ex < s1 → False) : APs N D P vlo lo hi m (k + 1) w z A Bw Uo av 11 n s0 s1 ex π σ τ (fun π σ p => Pc_applyAll N rA π σ fc D p) := by
  intro Xo π' σ' τ' L Kn oi a1 a2 a3 a4 a5
  have hq : (cs.reverse.map (fun c => ((11 : Int), c))).length = cs.length := by simp
  obtain ⟨π1, σ1, seg1, o1, q1, q2, q3, q4, q5⟩ := hB N 0 (by omega) (by omega) (by omega) Xo π' σ' τ' L Kn oi (a1.sub (Int.le_refl _) (Int.le_refl _) (fun x y => (hx x y).elim)) a2 a3 a4 (fun a i x1 x2 x3 x4 x5 => a5 a i x1 x2 (by omega) (by omega) (by omega))
  refine ⟨π1, σ1, seg1, o1, q1, q2, q3, q4, fun x hx => ?_⟩
  have hb := HLv_b hx
  have e : ∀ a : Int, 86 ≤ a → a ≤ 94 → el τ' a n = el τ a n := fun a x y => a5 a n (by omega) y hn.2.1 hn.2.2 (by omega)
  have hc2 : CHn τ' lo1 hi1 cs (el τ' 87 n) := by
    rw [e 87 (by omega) (by omega)]
    exact hch.cg (fun a i x1 x2 x3 x4 => a5 a i x1 x2 (by omega) (by omega) (by omega))
  exact ap_all (k1 := k) hN hn (by rw [e 94 (by omega) (by omega)]; exact h94) (hc2.mono hl.1 hl.2.1) ((q5 x hx).mono (Nat.le_refl _) hl.1 hl.2.1 (fun _ _ _ _ _ _ => rfl) (List.prefix_refl _) (Int.le_refl _) (Int.le_refl _) (Int.le_refl _) (Int.le_refl _) (fun _ hx => hx) (fun _ hx => hx)) ⟨by omega, by omega⟩ (by omega) (Nat.le_refl _)
/-- a FUN that is a name -/
theorem APs.only {D P vlo lo hi w z A Bw c s0 s1 pc : Int} {m k : Nat} {Uo : Stq → Prop} {av : List (Int × Int)} {π : Sh} {σ τ : St} (hN : 30000001 ≤ N) (hP : P ≤ 4) (hA : APs N D P vlo lo hi m k w z A Bw Uo av 11 c s0 s1 pc π σ τ (fun π σ p => rA π σ pc D p)) (ho : ob π pc 6) (h127 : fl σ 127 pc = -1) (hs : s0 ≤ pc ∧ pc < s1 ∧ s1 ≤ nn π) (hc : lo ≤ c ∧ c < hi) (h0 : 0 ≤ s0) (hz : 0 ≤ w ∧ 0 ≤ z) : APs N D P vlo lo hi m k w z A Bw Uo av 11 c s0 s1 (-1) π σ τ (fun π σ p => Pc_applyAll N rA π σ pc D p) := by
  have t := CHa.cons (lo := lo) (hi := hi) (w := w) (z := z) (s0 := s0) (s1 := s1) hP hA (CHa.none (N := N) (rA := rA) (D := D) (P := P) (vlo := vlo) (lo := lo) (hi := lo) (c := 0) (s0 := s0) (s1 := s0) (Uo := Uo) (π := π) (σ := σ) (τ := τ)) ho h127 ⟨hs.1, hs.2.1⟩ ⟨⟨by omega, by omega⟩, ⟨by omega, by omega⟩, hs.2.2⟩ ⟨⟨by omega, by omega⟩, ⟨Int.le_refl _, by omega⟩, by omega⟩ hc.1 (fun x hx => absurd hx (by simp)) ⟨by simp, by omega⟩ ⟨by omega, by omega⟩ h0
  have t2 := t N 0 (by show 1 < N; omega) (by omega) (by show (0 : Int) + ((1 : Nat) : Int) < 2000; decide)
  simp only [Nat.add_zero, Int.add_zero, List.append_nil] at t2
  exact t2
/-- a group among pieces -/
theorem APs.group {D P vlo lo hi w z A Bw c s0 s1 t0 t1 pc fc place a b c1 d : Int} {m k : Nat} {Uo : Stq → Prop} {av : List (Int × Int)} {π : Sh} {σ τ : St} (hp : PCf π σ pc 23 place a b c1 d) (h126 : fl σ 126 pc = fc) (hs : s0 ≤ pc ∧ pc < s1) (ht : (s0 ≤ t0 ∧ t1 ≤ s1) ∧ pc < t0) (hA : APs N D P vlo lo hi m k w z A Bw Uo av 11 c t0 t1 (-1) π σ τ (fun π σ p => Pc_applyAll N rA π σ fc D p)) : APs N D P vlo lo hi m k w z A Bw Uo av 11 c s0 s1 pc π σ τ (fun π σ p => Pc_apply N rA π σ pc D p) := by
  intro Xo π' σ' τ' L Kn oi a1 a2 a3 a4 a5
  have kf : ∀ g : Nat, 120 ≤ g → g ≤ 130 → g ≠ 127 → fl σ' g pc = fl σ g pc := fun g a b c => a1.2.1 g pc a b hs.1 hs.2 (by omega)
  have hp' : PCf π' σ' pc 23 place a b c1 d := hp.cg a1.1 (fun g a b => kf g (by omega) (by omega) (by omega))
  obtain ⟨g1, g2, g3⟩ := id hp'
  obtain ⟨π1, σ1, seg1, o1, q1, q2⟩ := hA Xo π' σ' τ' L Kn oi (a1.sub ht.1.1 ht.1.2 (fun x y => by omega)) a2 a3 a4 a5
  refine ⟨π1, σ1, seg1, o1, ?_, q2⟩
  show Pc_apply N rA π' σ' pc D oi = _
  rw [Pc_apply, grd_t g1, g2, grd_t (by decide)]
  iterate 23 rw [if_neg (by decide)]
  have q1' : Pc_applyAll N rA π' σ' fc D oi = some (π1, σ1, o1) := q1
  rw [if_pos rfl, kf 126 (by omega) (by omega) (by omega), h126, q1', Option.bind_some]
  rfl
end AP7
