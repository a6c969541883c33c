/-! pieces with what was given to them, both -/
section AP4
variable {N : Nat} {rA : Sh → St → Int → Int → Int → Option (Sh × St × Int)}
theorem aps_two {D P vlo lo hi n s0 s1 ex pc f place a b c d oa F : Int} {Uo : Stq → Prop} {av : List (Int × Int)} {π : Sh} {σ τ : St} (hN : 30000001 ≤ N) (hp : PCf π σ pc f place a b c d) (ha : PCa π σ pc [oa]) (hs : s0 ≤ pc ∧ pc < s1) (hsa : s0 ≤ fl σ 129 pc ∧ fl σ 129 pc < s1) (hf : f = 14 ∨ f = 15) (hn : ND lo hi n) (hF : FN τ n place f a b c d) (h94 : el τ 94 n = 13) (h87 : el τ 87 n = F) (hFn : inb F 32768) (hav : (F, oa) ∈ av) : APs N D P vlo lo hi 1 1 1 2 6 60 Uo av 11 n s0 s1 ex π σ τ (fun π σ p => Pc_apply N rA π σ pc D p) := by
  intro Xo π' σ' τ' L Kn oi h1 h2 h3 h4 h5
  have kf : ∀ g : Nat, 120 ≤ g → g ≤ 130 → g ≠ 127 → fl σ' g pc = fl σ g pc := fun g a b c => h1.2.1 g pc a b hs.1 hs.2 (by omega)
  have hp' : PCf π' σ' pc f place a b c d := hp.cg h1.1 (fun g a b => kf g (by omega) (by omega) (by omega))
  have ha' : PCa π' σ' pc [oa] := ha.cg h1.1 (fun g hg => kf g (by omega) (by omega) (by omega)) (fun j => h1.2.2 _ j hsa.1 hsa.2 ha.1.1)
  obtain ⟨π'', σ'', q1, q2⟩ := ap_two_ok (N := N) (rA := rA) (p := oi) hp' ha' hf h2 h3 (by omega)
  obtain ⟨g1, g2, g3, g4, g5, g6⟩ := hF
  have e : ∀ a : Int, 86 ≤ a → a ≤ 94 → el τ' a n = el τ a n := fun a x y => h5 a n (by omega) y hn.2.1 hn.2.2 (by omega)
  have hF' : FN τ' n place f a b c d := ⟨by rw [e 93 (by omega) (by omega)]; exact g1, by rw [e 92 (by omega) (by omega)]; exact g2, by rw [e 91 (by omega) (by omega)]; exact g3, by rw [e 90 (by omega) (by omega)]; exact g4, by rw [e 89 (by omega) (by omega)]; exact g5, by rw [e 88 (by omega) (by omega)]; exact g6⟩
  refine ⟨π'', σ'', _, _, q1, q2, by simp, fun y hy h9 => ?_, fun x hx => ?_⟩
  · have ey : y = ((fK f a b c d).1, place, 0, 0, 0, 0, 0, [(oa, 1, 1), (oi, 1, 1)]) := by simpa using hy
    rw [ey] at h9
    exact absurd h9 (fK_n99 f a b c d)
  · have hl := HLv_b hx
    exact ap_two (U := UDl N x) (ℓ := 12 - x) (vlo := vlo) (P := P) (Kn := Kn) (j := L.length) (δ := 0) (oi := oi) hN hn (by rw [e 94 (by omega) (by omega)]; exact h94) hF' hf (by rw [e 87 (by omega) (by omega)]; exact h87) hFn hav (by omega) (by omega) (Nat.le_refl _) (Int.le_refl _)
theorem aps_op {D P vlo lo hi n s0 s1 ex pc place a b c d oa F : Int} {Uo : Stq → Prop} {av : List (Int × Int)} {π : Sh} {σ τ : St} (hN : 30000001 ≤ N) (hp : PCf π σ pc 21 place a b c d) (ha : PCa π σ pc [oa]) (hs : s0 ≤ pc ∧ pc < s1) (hsa : s0 ≤ fl σ 129 pc ∧ fl σ 129 pc < s1) (hn : ND lo hi n) (h93 : el τ 93 n = place) (h92 : el τ 92 n = a ∧ i32 a) (h94 : el τ 94 n = 12) (h87 : el τ 87 n = F) (hFn : inb F 32768) (hav : (F, oa) ∈ av) : APs N D P vlo lo hi 1 1 1 2 6 60 Uo av 11 n s0 s1 ex π σ τ (fun π σ p => Pc_apply N rA π σ pc D p) := by
  intro Xo π' σ' τ' L Kn oi h1 h2 h3 h4 h5
  have kf : ∀ g : Nat, 120 ≤ g → g ≤ 130 → g ≠ 127 → fl σ' g pc = fl σ g pc := fun g a b c => h1.2.1 g pc a b hs.1 hs.2 (by omega)
  have hp' : PCf π' σ' pc 21 place a b c d := hp.cg h1.1 (fun g a b => kf g (by omega) (by omega) (by omega))
  have ha' : PCa π' σ' pc [oa] := ha.cg h1.1 (fun g hg => kf g (by omega) (by omega) (by omega)) (fun j => h1.2.2 _ j hsa.1 hsa.2 ha.1.1)
  obtain ⟨π'', σ'', q1, q2⟩ := ap_op_ok (N := N) (rA := rA) (p := oi) hp' ha' h2 h3 (by omega)
  have e : ∀ a : Int, 86 ≤ a → a ≤ 94 → el τ' a n = el τ a n := fun a x y => h5 a n (by omega) y hn.2.1 hn.2.2 (by omega)
  refine ⟨π'', σ'', _, _, q1, q2, by simp, fun y hy h9 => ?_, fun x hx => ?_⟩
  · have ey : y = (25, place, a, 0, 0, 0, 0, [(oi, 1, 1), (oa, 1, 1)]) := by simpa using hy
    rw [ey] at h9
    exact absurd (show (25 : Int) = 99 from h9) (by decide)
  · have hl := HLv_b hx
    exact ap_op (U := UDl N x) (ℓ := 12 - x) (vlo := vlo) (P := P) (Kn := Kn) (j := L.length) (δ := 0) (oi := oi) hN hn (by rw [e 94 (by omega) (by omega)]; exact h94) (by rw [e 93 (by omega) (by omega)]; exact h93) (by rw [e 92 (by omega) (by omega)]; exact h92) (by rw [e 87 (by omega) (by omega)]; exact h87) hFn hav (by omega) (by omega) (Nat.le_refl _) (Int.le_refl _)
theorem aps_use {D P vlo lo hi n s0 s1 ex pc place a b c d Dd dd : Int} {oas cs : List Int} {Uo : Stq → Prop} {av : List (Int × Int)} {π : Sh} {σ τ : St} (hN : 30000001 ≤ N) (hp : PCf π σ pc 22 place a b c d) (ha : PCa π σ pc oas) (hs : s0 ≤ pc ∧ pc < s1) (hsa : s0 ≤ fl σ 129 pc ∧ fl σ 129 pc < s1) (hu : fl σ 128 pc = Dd ∧ ob π Dd 1) (hn : ND lo hi n) (h94 : el τ 94 n = 10) (h93 : el τ 93 n = place) (h92 : el τ 92 n = dd) (hch : CHn τ (n + 1) hi cs (el τ 87 n)) (hl : cs.length = oas.length) (hav : ∀ x ∈ cs.zip oas, x ∈ av) (hUo : ∀ ops : List Kid, ops.length = oas.length + 1 → Uo (99, place, Dd, dd, 0, 0, 0, ops)) : APs N D P vlo lo hi 1 1 2 6 9 120 Uo av 11 n s0 s1 ex π σ τ (fun π σ p => Pc_apply N rA π σ pc D p) := by
  intro Xo π' σ' τ' L Kn oi h1 h2 h3 h4 h5
  have kf : ∀ g : Nat, 120 ≤ g → g ≤ 130 → g ≠ 127 → fl σ' g pc = fl σ g pc := fun g a b c => h1.2.1 g pc a b hs.1 hs.2 (by omega)
  have hp' : PCf π' σ' pc 22 place a b c d := hp.cg h1.1 (fun g a b => kf g (by omega) (by omega) (by omega))
  have ha' : PCa π' σ' pc oas := ha.cg h1.1 (fun g hg => kf g (by omega) (by omega) (by omega)) (fun j => h1.2.2 _ j hsa.1 hsa.2 ha.1.1)
  obtain ⟨π'', σ'', q1, q2⟩ := ap_use_ok (N := N) (rA := rA) (p := oi) (dd := dd) (by omega) hp' ha' ⟨by rw [kf 128 (by omega) (by omega) (by omega)]; exact hu.1, hu.2.ext h1.1⟩ h2 h3 (by omega)
  have e : ∀ a : Int, 86 ≤ a → a ≤ 94 → el τ' a n = el τ a n := fun a x y => h5 a n (by omega) y hn.2.1 hn.2.2 (by omega)
  have hn' := hn
  obtain ⟨m1, m2, m3⟩ := hn'
  refine ⟨π'', σ'', _, _, q1, q2, by simp, fun y hy h9 => ?_, fun x hx => ?_⟩
  · have ey : y = (99, place, Dd, dd, 0, 0, 0, (oas ++ [oi]).map (fun o => (o, 1, 1))) := by simpa using hy
    rw [ey]
    exact hUo _ (by rw [List.length_map, List.length_append]; rfl)
  · have hl' := HLv_b hx
    have c1 : CHn τ' (n + 1) hi cs (el τ' 87 n) := by
      rw [e 87 (by omega) (by omega)]
      exact hch.cg (fun a i x1 x2 x3 x4 => h5 a i x1 x2 (by omega) x4 (by omega))
    have es : (12 - (x : Int)) + 1 = 13 - x := by omega
    exact ap_name (U := UDl N x) (U' := UDl N (x - 1)) (ℓ := 12 - x) (vlo := vlo) (P := P) (Kn := Kn) (j := L.length) (δ := 0) (oi := oi) hN (UDl.hU hx rfl) hn (by rw [e 94 (by omega) (by omega)]; exact h94) (by rw [e 92 (by omega) (by omega)]; exact h92) (by rw [e 93 (by omega) (by omega)]; exact h93) (CHn.mono (by omega) (Int.le_refl _) c1) ⟨hl, ha.2.2.1⟩ hav (by rw [es]; omega) (by rw [es]; omega) (Nat.le_refl _) (by decide) (Int.le_refl _)
end AP4
