/-! a piece is applied: both -/
section AP3
variable {N : Nat} {rA : Sh → St → Int → Int → Int → Option (Sh × St × Int)}
/-- cells of pieces that stay: from s0 up to s1, but for next of ex -/
def PFx (s0 s1 ex : Int) (π : Sh) (σ : St) (π' : Sh) (σ' : St) : Prop := ext π π' ∧ (∀ (f : Nat) (i : Int), 120 ≤ f → f ≤ 130 → s0 ≤ i → i < s1 → ¬ (f = 127 ∧ i = ex) → fl σ' f i = fl σ f i) ∧ ∀ a j : Int, s0 ≤ a → a < s1 → ob π a 22 → el σ' a j = el σ a j
theorem PFx.rf (s0 s1 ex : Int) (π : Sh) (σ : St) : PFx s0 s1 ex π σ π σ := ⟨ext.rf _, fun _ _ _ _ _ _ _ => rfl, fun _ _ _ _ _ => rfl⟩
theorem PFx.tr {s0 s1 ex : Int} {π π1 π2 : Sh} {σ σ1 σ2 : St} (h : PFx s0 s1 ex π σ π1 σ1) (k : PFx s0 s1 ex π1 σ1 π2 σ2) : PFx s0 s1 ex π σ π2 σ2 := ⟨h.1.tr k.1, fun f i a b c d e => (k.2.1 f i a b c d e).trans (h.2.1 f i a b c d e), fun a j x y z => (k.2.2 a j x y (z.ext h.1)).trans (h.2.2 a j x y z)⟩
theorem PFx.sub {s0 s1 ex t0 t1 ex' : Int} {π π1 : Sh} {σ σ1 : St} (h : PFx s0 s1 ex π σ π1 σ1) (h0 : s0 ≤ t0) (h1 : t1 ≤ s1) (hx : t0 ≤ ex → ex < t1 → ex = ex') : PFx t0 t1 ex' π σ π1 σ1 := ⟨h.1, fun f i a b c d e => h.2.1 f i a b (by omega) (by omega) (fun q => e ⟨q.1, by rw [q.2] at c d ⊢; exact hx c d⟩), fun a j x y z => h.2.2 a j (by omega) (by omega) z⟩
/-- steps are added -/
theorem PFx.ft {X : Int → Prop} {s0 s1 ex D P : Int} {π π' : Sh} {σ σ' τ : St} {L : List Stq} {Kn : List Int} (hb : BDy X π σ τ D P L Kn) (hx : XGt (fl σ 23 D) π σ π' σ') (h1 : s1 ≤ nn π) : PFx s0 s1 ex π σ π' σ' := by
  refine ⟨hx.1.1, fun f i a b c d _ => hx.1.2.1 f i (by omega) (by omega) (by omega) (by omega), fun a j c d ho => hx.1.2.2.1 a j (by omega) (fun e => ?_)⟩
  rcases hb.2.1.ar with q | q
  · rw [← e] at q; have := ho.1; omega
  · rw [← e] at q
    have t := q.2.2
    rw [ho.2.2] at t
    exact absurd t (by decide)
/-- what applying comes to: the class runs, the reference's task (wk, c) -/
def APs (N : Nat) (D P vlo lo hi : Int) (m k : Nat) (w z A Bw : Int) (Uo : Stq → Prop) (av : List (Int × Int)) (wk c s0 s1 ex : Int) (π : Sh) (σ τ : St) (run : Sh → St → Int → Option (Sh × St × Int)) : Prop :=
  ∀ (Xo : Int → Prop) (π' : Sh) (σ' τ' : St) (L : List Stq) (Kn : List Int) (oi : Int), PFx s0 s1 ex π σ π' σ' → SHs π' → BDy Xo π' σ' τ' D P L Kn → L.length + m ≤ 20000 → (∀ a i : Int, 85 ≤ a → a ≤ 94 → lo ≤ i → i < hi → ¬ (a = 85 ∧ i = c) → el τ' a i = el τ a i) → ∃ π'' σ'' seg o, run π' σ' oi = some (π'', σ'', o) ∧ ADo Xo D P L Kn π' σ' τ' seg π'' σ'' A Bw ∧ seg.length ≤ m ∧ (∀ y ∈ seg, y.1 = 99 → Uo y) ∧ ∀ x : Nat, x ≤ 12 → TKS N (UDl N x) (12 - x) τ' vlo lo hi P Kn L.length seg (HLv (13 - x) + w) (HLv (13 - x) + z) k 0 0 [(wk, c)] [oi] [o] av []
theorem HLv_b {x : Nat} (h : x ≤ 12) : 2500 ≤ HLv (13 - x) := by unfold HLv; omega
/-- the task of a function's node -/
theorem hw_ok {τ : St} {lo hi wk n f : Int} (hn : ND lo hi n) (h : (wk = 11 ∧ el τ 94 n = 13 ∧ el τ 92 n = f ∧ (0 ≤ f ∧ f ≤ 20 ∧ f ≠ 14 ∧ f ≠ 15)) ∨ wk = 12) : ∀ τ' : St, (∀ a i : Int, 85 ≤ a → a ≤ 94 → lo ≤ i → i < hi → el τ' a i = el τ a i) → r_does N τ' wk n = r_function N τ' n := fun τ' ht => by
  rcases h with ⟨q1, q2, q3, q4⟩ | q
  · rw [q1, apply_fun hn.b ((ht 94 n (by omega) (by omega) hn.2.1 hn.2.2).trans q2) ((ht 92 n (by omega) (by omega) hn.2.1 hn.2.2).trans q3) q4]
  · rw [q, does12]
/-- numbers that a function may have -/
def IVf (f a b c d : Int) : Prop := (isOne f → ∀ p : Int, IV (fK f a b c d).1 (fK f a b c d).2.1 (fK f a b c d).2.2.1 (fK f a b c d).2.2.2.1 (fK f a b c d).2.2.2.2 [(p, 1, 1)]) ∧ ((f = 5 ∨ f = 6 ∨ f = 11 ∨ f = 19) → ∀ p q : Int, IV (fK f a b c d).1 (fK f a b c d).2.1 (fK f a b c d).2.2.1 (fK f a b c d).2.2.2.1 (fK f a b c d).2.2.2.2 [(p, 1, 1), (q, 1, 1)]) ∧ (f = 7 → ∀ p : Int, IV 11 a b 0 0 [(p, 1, 1)]) ∧ (f = 12 → 1 ≤ a ∧ a ≤ 64) ∧ (f = 18 → 0 ≤ a ∧ a ≤ 1000)
theorem fK_n99 (f a b c d : Int) : (fK f a b c d).1 ≠ 99 := by
  unfold fK
  by_cases c0 : f = 0
  · rw [if_pos c0]; show (9 : Int) ≠ 99; decide
  rw [if_neg c0]
  by_cases c1 : f = 1
  · rw [if_pos c1]; show (9 : Int) ≠ 99; decide
  rw [if_neg c1]
  by_cases c2 : f = 2
  · rw [if_pos c2]; show (10 : Int) ≠ 99; decide
  rw [if_neg c2]
  by_cases c3 : f = 3
  · rw [if_pos c3]; show (11 : Int) ≠ 99; decide
  rw [if_neg c3]
  by_cases c4 : f = 4
  · rw [if_pos c4]; show (12 : Int) ≠ 99; decide
  rw [if_neg c4]
  by_cases c5 : f = 5
  · rw [if_pos c5]; show (13 : Int) ≠ 99; decide
  rw [if_neg c5]
  by_cases c6 : f = 6
  · rw [if_pos c6]; show (14 : Int) ≠ 99; decide
  rw [if_neg c6]
  by_cases c9 : f = 9
  · rw [if_pos c9]; show (17 : Int) ≠ 99; decide
  rw [if_neg c9]
  by_cases c10 : f = 10
  · rw [if_pos c10]; show (18 : Int) ≠ 99; decide
  rw [if_neg c10]
  by_cases c11 : f = 11
  · rw [if_pos c11]; show (15 : Int) ≠ 99; decide
  rw [if_neg c11]
  by_cases c13 : f = 13
  · rw [if_pos c13]; show (19 : Int) ≠ 99; decide
  rw [if_neg c13]
  by_cases c14 : f = 14
  · rw [if_pos c14]; show (23 : Int) ≠ 99; decide
  rw [if_neg c14]
  by_cases c15 : f = 15
  · rw [if_pos c15]; show (24 : Int) ≠ 99; decide
  rw [if_neg c15]
  by_cases c16 : f = 16
  · rw [if_pos c16]; show (21 : Int) ≠ 99; decide
  rw [if_neg c16]
  by_cases c17 : f = 17
  · rw [if_pos c17]; show (22 : Int) ≠ 99; decide
  rw [if_neg c17]
  by_cases c19 : f = 19
  · rw [if_pos c19]; show (16 : Int) ≠ 99; decide
  rw [if_neg c19]
  show (20 : Int) ≠ 99; decide
theorem aps_one {D P vlo lo hi wk n s0 s1 ex pc f place a b c d : Int} {Uo : Stq → Prop} {av : List (Int × Int)} {π : Sh} {σ τ : St} (hN : 30000001 ≤ N) (hp : PCf π σ pc f place a b c d) (hs : s0 ≤ pc ∧ pc < s1) (hf : isOne f) (hn : ND lo hi n) (hF : FN τ n place f a b c d) (hw : (wk = 11 ∧ el τ 94 n = 13) ∨ wk = 12) (hv : IVf f a b c d) : APs N D P vlo lo hi 1 1 1 1 6 60 Uo av wk n s0 s1 ex π σ τ (fun π σ p => Pc_apply N rA π σ pc D p) := by
  intro Xo π' σ' τ' L Kn oi h1 h2 h3 h4 h5
  have hp' : PCf π' σ' pc f place a b c d := hp.cg h1.1 (fun g a b => h1.2.1 g pc (by omega) (by omega) hs.1 hs.2 (by omega))
  obtain ⟨π'', σ'', q1, q2⟩ := ap_one_ok (N := N) (rA := rA) (p := oi) hp' hf h2 h3 (by omega)
  have ff : 0 ≤ f ∧ f ≤ 20 ∧ f ≠ 14 ∧ f ≠ 15 := by unfold isOne at hf; omega
  obtain ⟨g1, g2, g3, g4, g5, g6⟩ := hF
  have e : ∀ a : Int, 86 ≤ a → a ≤ 94 → el τ' a n = el τ a n := fun a x y => h5 a n (by omega) y hn.2.1 hn.2.2 (by omega)
  have hF' : FN τ' n place f a b c d := ⟨by rw [e 93 (by omega) (by omega)]; exact g1, by rw [e 92 (by omega) (by omega)]; exact g2, by rw [e 91 (by omega) (by omega)]; exact g3, by rw [e 90 (by omega) (by omega)]; exact g4, by rw [e 89 (by omega) (by omega)]; exact g5, by rw [e 88 (by omega) (by omega)]; exact g6⟩
  refine ⟨π'', σ'', _, _, q1, q2, by simp, fun y hy h9 => ?_, fun x hx => ?_⟩
  · have ey : y = ((fK f a b c d).1, place, (fK f a b c d).2.1, (fK f a b c d).2.2.1, (fK f a b c d).2.2.2.1, (fK f a b c d).2.2.2.2, 0, [(oi, 1, 1)]) := by simpa using hy
    rw [ey] at h9
    have h9' : (fK f a b c d).1 = 99 := h9
    exact absurd h9' (fK_n99 f a b c d)
  · have hl := HLv_b hx
    have t := tk_fone (U := UDl N x) (ℓ := 12 - x) (vlo := vlo) (P := P) (Kn := Kn) (j := L.length) (u := HLv (13 - x) + 1) (v := HLv (13 - x) + 1) (k := 1) (δ := 0) (w := wk) (av := av) (oi := oi) hN hn hF' hf (hv.1 hf oi) (by omega) (by omega) (Nat.le_refl _) (Int.le_refl _) (hw_ok (f := f) hn (by
      rcases hw with q | q
      · exact Or.inl ⟨q.1, by rw [e 94 (by omega) (by omega)]; exact q.2, hF'.2.1, ff⟩
      · exact Or.inr q))
    exact t.mono (Nat.le_refl _) (Int.le_refl _) (Int.le_refl _) (fun _ _ _ _ _ _ => rfl) (List.prefix_refl _) (Int.le_refl _) (Int.le_refl _) (by decide) (Int.le_refl _) (fun _ hx => hx) (fun _ hx => hx)
/-- rev, by its name alone -/
theorem aps_rev {D P vlo lo hi n s0 s1 ex pc place a b c d : Int} {Uo : Stq → Prop} {av : List (Int × Int)} {π : Sh} {σ τ : St} (hN : 30000001 ≤ N) (hp : PCf π σ pc 4 place a b c d) (hs : s0 ≤ pc ∧ pc < s1) (hn : ND lo hi n) (h94 : el τ 94 n = 9) (h93 : el τ 93 n = place) : APs N D P vlo lo hi 1 1 1 1 6 60 Uo av 11 n s0 s1 ex π σ τ (fun π σ p => Pc_apply N rA π σ pc D p) := by
  intro Xo π' σ' τ' L Kn oi h1 h2 h3 h4 h5
  have hp' : PCf π' σ' pc 4 place a b c d := hp.cg h1.1 (fun g a b => h1.2.1 g pc (by omega) (by omega) hs.1 hs.2 (by omega))
  obtain ⟨π'', σ'', q1, q2⟩ := ap_one_ok (N := N) (rA := rA) (p := oi) hp' (Or.inr (Or.inr (Or.inr (Or.inr (Or.inl rfl))))) h2 h3 (by omega)
  have e : ∀ a : Int, 86 ≤ a → a ≤ 94 → el τ' a n = el τ a n := fun a x y => h5 a n (by omega) y hn.2.1 hn.2.2 (by omega)
  refine ⟨π'', σ'', [(12, place, 0, 0, 0, 0, 0, [(oi, 1, 1)])], _, q1, q2, by simp, fun y hy h9 => ?_, fun x hx => ?_⟩
  · have ey : y = (12, place, 0, 0, 0, 0, 0, [(oi, 1, 1)]) := by simpa using hy
    rw [ey] at h9
    exact absurd (show (12 : Int) = 99 from h9) (by decide)
  · have hl := HLv_b hx
    have t := ap_rev (τp := τ') (place := place) (U := UDl N x) (ℓ := 12 - x) (vlo := vlo) (P := P) (Kn := Kn) (j := L.length) (u := HLv (13 - x) + 1) (v := HLv (13 - x) + 1) (k := 1) (δ := 0) (avq := av) (oi := oi) hN hn (by rw [e 94 (by omega) (by omega)]; exact h94) (by rw [e 93 (by omega) (by omega)]; exact h93) (by omega) (by omega) (Nat.le_refl _) (Int.le_refl _)
    exact t.mono (Nat.le_refl _) (Int.le_refl _) (Int.le_refl _) (fun _ _ _ _ _ _ => rfl) (List.prefix_refl _) (Int.le_refl _) (Int.le_refl _) (by decide) (Int.le_refl _) (fun _ hx => hx) (fun _ hx => hx)
end AP3
