/-! single tasks -/
section MKK
variable {N : Nat}
theorem make_row (τ : St) (n : Int) (h : inb n 32768) (hk : el τ 94 n = 1 ∨ el τ 94 n = 2 ∨ el τ 94 n = 23 ∨ el τ 94 n = 25 ∨ el τ 94 n = 26 ∨ el τ 94 n = 27) (hT : 0 ≤ fl τ 65 0 ∧ fl τ 65 0 < 19999) : r_make N τ n = some (pTs τ [(4, el τ 87 n), (5, n)]) := by
  have e1 : el (pT τ (5, n)) 87 n = el τ 87 n := pTs_el (τ := τ) [(5, n)] 87 n (Or.inl ⟨by decide, by decide⟩)
  have e2 : fl (pT τ (5, n)) 65 0 = fl τ 65 0 + 1 := pTs_65 (τ := τ) [(5, n)]
  have key : Option.bind (r_task N τ 5 n) (fun r4 => Option.bind (r_task N r4 4 (el r4 87 n)) (fun r6 => some r6)) = some (pTs τ [(4, el τ 87 n), (5, n)]) := by
    rw [r_task' (by omega), Option.bind_some, bsm, e1, r_task' (by omega)]; rfl
  rcases hk with hk | hk | hk | hk | hk | hk <;> rw [r_make, grd_t h, hk, grd_t (by decide)] <;> repeat rw [if_neg (by decide)]
  all_goals first | exact key | (rw [if_pos rfl]; exact key)
theorem make_sum (τ : St) (n : Int) (h : inb n 32768) (hk : el τ 94 n = 3) (hT : 0 ≤ fl τ 65 0 ∧ fl τ 65 0 < 19999) : r_make N τ n = some (pTs τ [(2, el τ 87 n)]) := by
  rw [r_make, grd_t h, hk, grd_t (by decide)]
  iterate 2 rw [if_neg (by decide)]
  rw [if_pos rfl, bsm, r_task' (by omega)]; rfl
theorem make_call (τ : St) (n : Int) (h : inb n 32768) (hk : el τ 94 n = 7) (hT : 0 ≤ fl τ 65 0 ∧ fl τ 65 0 < 19999) : r_make N τ n = some (pTs τ [(10, el τ 87 n), (22, n)]) := by
  have e1 : el (pT τ (22, n)) 87 n = el τ 87 n := pTs_el (τ := τ) [(22, n)] 87 n (Or.inl ⟨by decide, by decide⟩)
  have e2 : fl (pT τ (22, n)) 65 0 = fl τ 65 0 + 1 := pTs_65 (τ := τ) [(22, n)]
  rw [r_make, grd_t h, hk, grd_t (by decide)]
  iterate 6 rw [if_neg (by decide)]
  rw [if_pos rfl, r_task' (by omega), Option.bind_some, bsm, e1, r_task' (by omega)]; rfl
theorem make_func (τ : St) (n : Int) (h : inb n 32768) (hk : el τ 94 n = 8) (hT : 0 ≤ fl τ 65 0 ∧ fl τ 65 0 < 19999) : r_make N τ n = some (pTs τ [(10, el τ 87 n), (12, n)]) := by
  have e1 : el (pT τ (12, n)) 87 n = el τ 87 n := pTs_el (τ := τ) [(12, n)] 87 n (Or.inl ⟨by decide, by decide⟩)
  have e2 : fl (pT τ (12, n)) 65 0 = fl τ 65 0 + 1 := pTs_65 (τ := τ) [(12, n)]
  rw [r_make, grd_t h, hk, grd_t (by decide)]
  iterate 7 rw [if_neg (by decide)]
  rw [if_pos rfl, r_task' (by omega), Option.bind_some, bsm, e1, r_task' (by omega)]; rfl
theorem make_change (τ : St) (n : Int) (h : inb n 32768) (hk : el τ 94 n = 28 ∨ el τ 94 n = 29 ∨ el τ 94 n = 30 ∨ el τ 94 n = 31) (hT : 0 ≤ fl τ 65 0 ∧ fl τ 65 0 < 19999) : r_make N τ n = some (pTs τ [(1, el τ 87 n), (6, n)]) := by
  have e1 : el (pT τ (6, n)) 87 n = el τ 87 n := pTs_el (τ := τ) [(6, n)] 87 n (Or.inl ⟨by decide, by decide⟩)
  have e2 : fl (pT τ (6, n)) 65 0 = fl τ 65 0 + 1 := pTs_65 (τ := τ) [(6, n)]
  have key : Option.bind (r_task N τ 6 n) (fun r4 => Option.bind (r_task N r4 1 (el r4 87 n)) (fun r6 => some r6)) = some (pTs τ [(1, el τ 87 n), (6, n)]) := by
    rw [r_task' (by omega), Option.bind_some, bsm, e1, r_task' (by omega)]; rfl
  rcases hk with hk | hk | hk | hk <;> rw [r_make, grd_t h, hk, grd_t (by decide)] <;> repeat rw [if_neg (by decide)]
  all_goals exact key
theorem make_param (τ : St) (n i : Int) (h : inb n 32768) (hk : el τ 94 n = 5) (hi : el τ 92 n = i) (hb : 0 ≤ 4 * fl τ 70 0 + i ∧ 4 * fl τ 70 0 + i < 60) (h68 : 0 ≤ fl τ 68 0 ∧ fl τ 68 0 < 20000) : r_make N τ n = some (sf (se τ 54 (fl τ 68 0) (el τ 53 (4 * fl τ 70 0 + i))) 68 0 (fl τ 68 0 + 1)) := by
  rw [r_make, grd_t h, hk, grd_t (by decide)]
  iterate 4 rw [if_neg (by decide)]
  rw [if_pos rfl, hi, grd_t (by exact ⟨hb.1, hb.2⟩), bsm, r_push, grd_t (by exact ⟨h68.1, h68.2⟩)]
theorem make_made (τ : St) (n i : Int) (h : inb n 32768) (hk : el τ 94 n = 6) (hi : el τ 92 n = i) (h68 : 0 ≤ fl τ 68 0 ∧ fl τ 68 0 < 20000) : r_make N τ n = some (sf (se τ 54 (fl τ 68 0) i) 68 0 (fl τ 68 0 + 1)) := by
  rw [r_make, grd_t h, hk, grd_t (by decide)]
  iterate 5 rw [if_neg (by decide)]
  rw [if_pos rfl, hi, bsm, r_push, grd_t (by exact ⟨h68.1, h68.2⟩)]
end MKK
section TK1
variable {N : Nat} {U : Gl → Int → Stq → Prop} {ℓ : Int} {τp : St} {vlo P lo hi j u v δ : Int} {k : Nat} {Kn : List Int} {avq : List (Int × Int)}
/-- a node that may be looked at -/
def ND (lo hi n : Int) : Prop := (0 ≤ n ∧ n < 32768) ∧ lo ≤ n ∧ n < hi
theorem ND.b {lo hi n : Int} (h : ND lo hi n) : inb n 32768 := ⟨h.1.1, h.1.2⟩
/-- pushing a pattern on the pile -/
theorem push_rf {T Q q x : Int} (τ : St) (h : Q ≤ q) : RF T Q vlo lo hi τ (sf (se τ 54 q x) 68 0 (q + 1)) := ⟨fun f i _ h2 => by rw [fl_sfn _ _ _ _ h2, fl_se], fun a i h1 _ _ _ => by rw [el_sf, el_sen _ _ _ _ h1], fun i _ => ⟨by rw [el_sf, el_sen _ _ _ _ (by decide)], by rw [el_sf, el_sen _ _ _ _ (by decide)]⟩, fun i hi => by rw [el_sf, el_sej _ _ _ (by omega)], fun i _ _ => by rw [el_sf, el_sen _ _ _ _ (by decide)]⟩
theorem OVa.rf {T Q base rb o p : Int} {π : Sh} {σ τ τ' : St} {Kn : List Int} (h : OVa π σ τ base rb Kn o p) (k : RF T Q vlo lo hi τ τ') : OVa π σ τ' base rb Kn o p := h.kp (k.kp (ℓ := 0) (rb := rb)) (Int.le_refl _)
theorem tk_push1 {n o : Int} (hN : 30000001 ≤ N) (hn : ND lo hi n) (hu : 1 ≤ u) (hv : 1 ≤ v) (hk : 1 ≤ k)
    (H : ∀ (π : Sh) (σ τ : St) (Kn' : List Int) (base T Q : Int) (g : Gl), (∀ a i : Int, 85 ≤ a → a ≤ 94 → lo ≤ i → i < hi → el τ a i = el τp a i) → Kn <+: Kn' → TF g ℓ P base j T Q u v Kn' [] avq π σ τ → ∃ x, r_make N τ n = some (sf (se τ 54 Q x) 68 0 (Q + 1)) ∧ OVa π σ τ base (base + P + j) Kn' o x) : TKS N U ℓ τp vlo lo hi P Kn j [] u v k 0 δ [(1, n)] [] [o] avq avq :=
  TKS.step (ins' := [o]) (avq' := avq) hN (TKS.nil (k := 0)) (by omega) hu (fun g π σ τ Kn' base T Q ht hK hF => by
    obtain ⟨x, x1, x2⟩ := H π σ τ Kn' base T Q g ht hK hF
    obtain ⟨f1, f2, f3, f4, f5, f6, f7, f8, f9, f10⟩ := hF
    have rf : RF T Q vlo lo hi τ (sf (se τ 54 Q x) 68 0 (Q + 1)) := push_rf τ (Int.le_refl _)
    refine ⟨_, by rw [does1]; exact x1, rf, by rw [fl_sfn _ _ _ _ (by decide), fl_se, f1]; simp, trivial, by rw [fl_sfs]; rfl, ⟨?_, trivial⟩, fun y hy => ?_⟩
    · show OVa _ _ _ _ _ _ _ (el (sf (se τ 54 Q x) 68 0 (Q + 1)) 54 Q)
      rw [el_sf, el_ses]
      exact x2.rf rf
    · rw [el_sf, el_sen _ _ _ _ (by decide)]
      exact (f4 y hy).rf rf)
theorem tk_param {n i : Int} (hN : 30000001 ≤ N) (hn : ND lo hi n) (h94 : el τp 94 n = 5) (h92 : el τp 92 n = i) (hi' : 0 ≤ i ∧ i < P) (hu : 1 ≤ u) (hv : 1 ≤ v) (hk : 1 ≤ k) : TKS N U ℓ τp vlo lo hi P Kn j [] u v k 0 δ [(1, n)] [] [i] avq avq :=
  tk_push1 hN hn hu hv hk (fun π σ τ Kn' base T Q g ht hK hF => by
    obtain ⟨f1, f2, f3, f4, f5, f6, f7, f8, f9, f10⟩ := hF
    have q : fl τ 68 0 = Q := by rw [f2]; simp
    refine ⟨el τ 53 (4 * ℓ + i), ?_, f10 i hi'.1 hi'.2⟩
    rw [make_param τ n i hn.b ((ht 94 n (by omega) (by omega) hn.2.1 hn.2.2).trans h94) ((ht 92 n (by omega) (by omega) hn.2.1 hn.2.2).trans h92) (by omega) (by omega), q, f8.1])
theorem tk_known {n p : Int} {m : Nat} (hN : 30000001 ≤ N) (hn : ND lo hi n) (h94 : el τp 94 n = 6) (h92 : el τp 92 n = p) (hm : Kn[m]? = some p) (hm' : m < 99999) (hu : 1 ≤ u) (hv : 1 ≤ v) (hk : 1 ≤ k) : TKS N U ℓ τp vlo lo hi P Kn j [] u v k 0 δ [(1, n)] [] [-(m : Int) - 1] avq avq :=
  tk_push1 hN hn hu hv hk (fun π σ τ Kn' base T Q g ht hK hF => by
    obtain ⟨f1, f2, f3, f4, f5, f6, f7, f8, f9, f10⟩ := hF
    have q : fl τ 68 0 = Q := by rw [f2]; simp
    refine ⟨p, ?_, Or.inl ⟨by omega, by omega, ?_⟩⟩
    · rw [make_made τ n p hn.b ((ht 94 n (by omega) (by omega) hn.2.1 hn.2.2).trans h94) ((ht 92 n (by omega) (by omega) hn.2.1 hn.2.2).trans h92) (by omega), q]
    · rw [show (-(-(m : Int) - 1) - 1).toNat = m by omega]
      obtain ⟨t, ht⟩ := hK
      rw [← ht, List.getElem?_append_left (List.getElem?_eq_some_iff.mp hm).1]; exact hm)
theorem tk_leaf {n K place a b : Int} {ins : List Int} (hN : 30000001 ≤ N) (hn : ND lo hi n) (h94 : (el τp 94 n = 20 ∧ K = 1 ∧ el τp 92 n = a ∧ el τp 91 n = b) ∨ (el τp 94 n = 21 ∧ K = 2 ∧ el τp 92 n = a ∧ b = 0) ∨ (el τp 94 n = 22 ∧ K = 3 ∧ a = 0 ∧ b = 0)) (h93 : el τp 93 n = place) (hv : IV K a b 0 0 []) (hu : 1 ≤ u) (hv' : 1 ≤ v) (hk : 1 ≤ k) (hd : 0 ≤ δ) : TKS N U ℓ τp vlo lo hi P Kn j [(K, place, a, b, 0, 0, 0, [])] u v k 2 δ [(1, n)] [] [P + j] avq [] :=
  TKS.made hN (by rcases h94 with h | h | h <;> omega) hv (fun o ho => absurd ho (by simp)) (by simp) hk hu hv' (by simp [bsd]) ⟨by simp [bsd]; omega, hd⟩ (fun g π σ τ Kn' base T Q ht hK hF => by
    obtain ⟨f1, f2, f3, f4, f5, f6, f7, f8, f9, f10⟩ := hF
    have q : fl τ 68 0 = Q := by rw [f2]; simp
    have t : ∀ a, 85 ≤ a → a ≤ 94 → el τ a n = el τp a n := fun a x y => ht a n x y hn.2.1 hn.2.2
    refine ⟨τ, [], ?_, ⟨fun _ _ _ _ => rfl, fun _ _ _ _ _ _ => rfl, fun _ _ => ⟨rfl, rfl⟩, fun _ _ => rfl, fun _ _ _ => rfl⟩, f1, trivial⟩
    rw [does1, show bsd 0 ([] : List Kid).length = 0 from rfl, ← q, ← leaf_rCM _ _ _ _ _ (by omega) f7]
    rcases h94 with ⟨h1, h2, h3, h4⟩ | ⟨h1, h2, h3, h4⟩ | ⟨h1, h2, h3, h4⟩
    · rw [r_make, grd_t hn.b, (t 94 (by omega) (by omega)).trans h1, grd_t (by decide)]
      iterate 19 rw [if_neg (by decide)]
      rw [if_pos rfl, bsm, (t 92 (by omega) (by omega)).trans h3, (t 91 (by omega) (by omega)).trans h4, (t 93 (by omega) (by omega)).trans h93, h2]
    · rw [r_make, grd_t hn.b, (t 94 (by omega) (by omega)).trans h1, grd_t (by decide)]
      iterate 20 rw [if_neg (by decide)]
      rw [if_pos rfl, bsm, (t 92 (by omega) (by omega)).trans h3, (t 93 (by omega) (by omega)).trans h93, h2, h4]
    · rw [r_make, grd_t hn.b, (t 94 (by omega) (by omega)).trans h1, grd_t (by decide)]
      iterate 21 rw [if_neg (by decide)]
      rw [if_pos rfl, bsm, (t 93 (by omega) (by omega)).trans h93, h2, h3, h4])
theorem rf_rf (T Q : Int) (τ : St) : RF T Q vlo lo hi τ τ := ⟨fun _ _ _ _ => rfl, fun _ _ _ _ _ _ => rfl, fun _ _ => ⟨rfl, rfl⟩, fun _ _ => rfl, fun _ _ _ => rfl⟩
/-- one pattern off the pile -/
theorem tk_one {w n K place a b c d o : Int} (hN : 30000001 ≤ N) (hK : K ≠ 99) (hv : IV K a b c d [(o, 1, 1)]) (hu : 1 ≤ u) (hv' : 1 ≤ v) (hk : 1 ≤ k) (hd : 0 ≤ δ)
    (H : ∀ τ : St, (∀ a i : Int, 85 ≤ a → a ≤ 94 → lo ≤ i → i < hi → el τ a i = el τp a i) → r_does N τ w n = r_one N τ K a b c d place) : TKS N U ℓ τp vlo lo hi P Kn j [(K, place, a, b, c, d, 0, [(o, 1, 1)])] u v k 1 δ [(w, n)] [o] [P + j] avq [] :=
  TKS.made hN hK hv (fun x hx => by simp at hx; subst hx; exact (by decide : ((1 : Int) ≤ 1 ∧ (1 : Int) ≤ 16) ∧ (1 : Int) ≤ 1 ∧ (1 : Int) ≤ 16)) (by simp) hk hu hv' (by simp [bsd]) ⟨by simp [bsd]; omega, hd⟩ (fun g π σ τ Kn' base T Q ht hK hF => by
    obtain ⟨f1, f2, f3, f4, f5, f6, f7, f8, f9, f10⟩ := hF
    have q : fl τ 68 0 = Q + 1 := by rw [f2]; simp
    refine ⟨τ, [(el τ 54 Q, 1, 1)], ?_, rf_rf _ _ _, f1, ⟨⟨rfl, f3.1⟩, trivial⟩⟩
    rw [H τ ht, one_rCM _ _ _ _ _ _ _ Q (by omega) f7 q (by omega)]; rfl)
theorem tk_two {w n K place a b c d o o' : Int} (hN : 30000001 ≤ N) (hK : K ≠ 99) (hv : IV K a b c d [(o, 1, 1), (o', 1, 1)]) (hu : 1 ≤ u) (hv' : 2 ≤ v) (hk : 1 ≤ k) (hd : 0 ≤ δ)
    (H : ∀ τ : St, (∀ a i : Int, 85 ≤ a → a ≤ 94 → lo ≤ i → i < hi → el τ a i = el τp a i) → r_does N τ w n = r_two N τ K a b c d place) : TKS N U ℓ τp vlo lo hi P Kn j [(K, place, a, b, c, d, 0, [(o, 1, 1), (o', 1, 1)])] u v k 0 δ [(w, n)] [o, o'] [P + j] avq [] :=
  TKS.made hN hK hv (fun x hx => by simp at hx; rcases hx with rfl | rfl <;> exact (by decide : ((1 : Int) ≤ 1 ∧ (1 : Int) ≤ 16) ∧ (1 : Int) ≤ 1 ∧ (1 : Int) ≤ 16)) (by simp) hk hu (by omega) (by simp [bsd]) ⟨by simp [bsd]; omega, hd⟩ (fun g π σ τ Kn' base T Q ht hK hF => by
    obtain ⟨f1, f2, f3, f4, f5, f6, f7, f8, f9, f10⟩ := hF
    have q : fl τ 68 0 = Q + 2 := by rw [f2]; simp
    refine ⟨τ, [(el τ 54 Q, 1, 1), (el τ 54 (Q + 1), 1, 1)], ?_, rf_rf _ _ _, f1, ⟨⟨rfl, f3.1⟩, ⟨rfl, f3.2.1⟩, trivial⟩⟩
    rw [H τ ht, two_rCM _ _ _ _ _ _ _ Q (by omega) f7 q (by omega)]; rfl)
theorem tk_dup {n o : Int} (hN : 30000001 ≤ N) (hu : 1 ≤ u) (hv : 2 ≤ v) (hk : 1 ≤ k) : TKS N U ℓ τp vlo lo hi P Kn j [] u v k 0 δ [(13, n)] [o] [o, o] avq avq :=
  TKS.step (ins' := [o, o]) (avq' := avq) hN (TKS.nil (k := 0)) (by omega) hu (fun g π σ τ Kn' base T Q ht hK hF => by
    obtain ⟨f1, f2, f3, f4, f5, f6, f7, f8, f9, f10⟩ := hF
    have q : fl τ 68 0 = Q + 1 := by rw [f2]; simp
    have rf : RF T Q vlo lo hi τ (sf (se τ 54 (Q + 1) (el τ 54 Q)) 68 0 (Q + 1 + 1)) := push_rf τ (by omega)
    refine ⟨_, by rw [does13 _ _ (by omega), q, show Q + 1 - 1 = Q by omega], rf, by rw [fl_sfn _ _ _ _ (by decide), fl_se, f1]; simp, trivial, by rw [fl_sfs]; simp; omega, ⟨?_, ?_, trivial⟩, fun y hy => ?_⟩
    · show OVa _ _ _ _ _ _ _ (el (sf (se τ 54 (Q + 1) (el τ 54 Q)) 68 0 (Q + 1 + 1)) 54 Q)
      rw [el_sf, el_sej _ _ _ (by omega)]
      exact f3.1.rf rf
    · show OVa _ _ _ _ _ _ _ (el (sf (se τ 54 (Q + 1) (el τ 54 Q)) 68 0 (Q + 1 + 1)) 54 (Q + 1))
      rw [el_sf, el_ses]
      exact f3.1.rf rf
    · rw [el_sf, el_sen _ _ _ _ (by decide)]
      exact (f4 y hy).rf rf)
theorem tk_swap {n o o' : Int} (hN : 30000001 ≤ N) (hu : 1 ≤ u) (hv : 2 ≤ v) (hk : 1 ≤ k) : TKS N U ℓ τp vlo lo hi P Kn j [] u v k 0 δ [(14, n)] [o, o'] [o', o] avq avq :=
  TKS.step (ins' := [o', o]) (avq' := avq) hN (TKS.nil (k := 0)) (by omega) hu (fun g π σ τ Kn' base T Q ht hK hF => by
    obtain ⟨f1, f2, f3, f4, f5, f6, f7, f8, f9, f10⟩ := hF
    have q : fl τ 68 0 = Q + 2 := by rw [f2]; simp
    obtain ⟨τ', hτ'⟩ : ∃ τ', τ' = sf (se (se τ 54 Q (el τ 54 (Q + 1))) 54 (Q + 1) (el τ 54 Q)) 68 0 (Q + 2) := ⟨_, rfl⟩
    have rf : RF T Q vlo lo hi τ τ' := by
      rw [hτ']
      exact ⟨fun f i _ h2 => by rw [fl_sfn _ _ _ _ h2, fl_se, fl_se], fun a i h1 _ _ _ => by rw [el_sf, el_sen _ _ _ _ h1, el_sen _ _ _ _ h1], fun i _ => ⟨by rw [el_sf, el_sen _ _ _ _ (by decide), el_sen _ _ _ _ (by decide)], by rw [el_sf, el_sen _ _ _ _ (by decide), el_sen _ _ _ _ (by decide)]⟩, fun i hi => by rw [el_sf, el_sej _ _ _ (by omega), el_sej _ _ _ (by omega)], fun i _ _ => by rw [el_sf, el_sen _ _ _ _ (by decide), el_sen _ _ _ _ (by decide)]⟩
    refine ⟨τ', by rw [does14 _ _ (by omega), q, show Q + 2 - 2 = Q by omega, show Q + 2 - 1 = Q + 1 by omega, hτ'], rf, by rw [hτ', fl_sfn _ _ _ _ (by decide), fl_se, fl_se, f1]; simp, trivial, by rw [hτ', fl_sfs]; rfl, ⟨?_, ?_, trivial⟩, fun y hy => ?_⟩
    · show OVa _ _ _ _ _ _ _ (el τ' 54 Q)
      rw [hτ', el_sf, el_sej _ _ _ (by omega), el_ses, ← hτ']
      exact f3.2.1.rf rf
    · show OVa _ _ _ _ _ _ _ (el τ' 54 (Q + 1))
      rw [hτ', el_sf, el_ses, ← hτ']
      exact f3.1.rf rf
    · rw [hτ', el_sf, el_sen _ _ _ _ (by decide), el_sen _ _ _ _ (by decide), ← hτ']
      exact (f4 y hy).rf rf)
theorem tk_store {n o : Int} (hN : 30000001 ≤ N) (hn : ND lo hi n) (hu : 1 ≤ u) (hv : 1 ≤ v) (hk : 1 ≤ k) : TKS N U ℓ τp vlo lo hi P Kn j [] u v k 0 δ [(8, n)] [o] [] [] [(n, o)] :=
  TKS.step (ins' := []) (avq' := [(n, o)]) hN (TKS.nil (k := 0)) (by omega) hu (fun g π σ τ Kn' base T Q ht hK hF => by
    obtain ⟨f1, f2, f3, f4, f5, f6, f7, f8, f9, f10⟩ := hF
    have q : fl τ 68 0 = Q + 1 := by rw [f2]; simp
    obtain ⟨τ', hτ'⟩ : ∃ τ', τ' = se (sf τ 68 0 Q) 84 n (el τ 54 Q) := ⟨_, rfl⟩
    have rf : RF T Q vlo lo hi τ τ' := by
      rw [hτ']
      exact ⟨fun f i _ h2 => by rw [fl_se, fl_sfn _ _ _ _ h2], fun a i _ _ _ h1 => by rw [el_sen _ _ _ _ h1]; rfl, fun i _ => ⟨by rw [el_sen _ _ _ _ (by decide)]; rfl, by rw [el_sen _ _ _ _ (by decide)]; rfl⟩, fun i hi => by rw [el_sen _ _ _ _ (by decide)]; rfl, fun i _ hx => by rw [el_sej _ _ _ (by rintro rfl; exact hx ⟨hn.2.1, hn.2.2⟩)]; rfl⟩
    refine ⟨τ', by rw [does8 _ _ hn.b (by omega), q, show Q + 1 - 1 = Q by omega, hτ'], rf, by rw [hτ', fl_se, fl_sfn _ _ _ _ (by decide), f1]; simp, trivial, by rw [hτ', fl_se, fl_sfs]; simp, trivial, fun y hy => ?_⟩
    simp at hy
    subst hy
    show OVa _ _ _ _ _ _ _ (el τ' 84 n)
    rw [hτ', el_ses, ← hτ']
    exact f3.1.rf rf)
end TK1
