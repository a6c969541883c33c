/-! a pattern is made: the class -/
/-- the value of an operand at the level of now -/
def VR (π : Sh) (σ : St) (o r : Int) : Prop := ob π r 5 ∧ ob π (el σ 6 (fl σ 85 3)) 1 ∧ ((o < 0 ∧ -100000 ≤ o ∧ ob π (fl σ 24 (el σ 6 (fl σ 85 3))) 0 ∧ -o ≤ fl σ 2 (fl σ 24 (el σ 6 (fl σ 85 3))) ∧ fl σ 2 (fl σ 24 (el σ 6 (fl σ 85 3))) < 100000 ∧ ob π (fl σ 1 (fl σ 24 (el σ 6 (fl σ 85 3)))) 27 ∧ fl σ 2 (fl σ 24 (el σ 6 (fl σ 85 3))) ≤ ln π (fl σ 1 (fl σ 24 (el σ 6 (fl σ 85 3)))) ∧ 56 ≤ fl σ 1 (fl σ 24 (el σ 6 (fl σ 85 3))) ∧ el σ (fl σ 1 (fl σ 24 (el σ 6 (fl σ 85 3)))) (-o - 1) = r) ∨ ((0 ≤ o ∧ o < 100000) ∧ 0 ≤ el σ 7 (fl σ 85 3) + o ∧ el σ 7 (fl σ 85 3) + o < 512 ∧ el σ 5 (el σ 7 (fl σ 85 3) + o) = r))
theorem c_operand {N : Nat} {π : Sh} {σ : St} {o r : Int} (lv : 0 ≤ fl σ 85 3 ∧ fl σ 85 3 < 13) (h : VR π σ o r) : Mk_operand N π σ o = some (σ, r) := by
  obtain ⟨h1, h2, ⟨a1, a2, a3, a4, a5, a6, a7, a8, a9⟩ | ⟨⟨a1, a1'⟩, a2, a3, a4⟩⟩ := h
  · rw [Mk_operand, grd_t (by exact ⟨lv.1, lv.2⟩), bnd, grd_t (by exact ⟨by omega, by omega⟩), if_pos a1, grd_t h2, L_size, grd_t a3, Option.bind_some, grd_t a3, grd_t (by exact ⟨by omega, by omega⟩)]
    simp only
    rw [grd_t (by exact ⟨by omega, by omega⟩), if_neg (by omega), L_get, grd_t a3, grd_t (by exact ⟨by omega, by omega⟩), grd_t (by exact ⟨by omega, by omega⟩), grd_t (by exact ⟨by omega, by omega⟩), grd_t a6, grd_t (by exact ⟨by omega, by omega, by omega⟩), Option.bind_some]
    simp only
    rw [grd_t a3, a9, grd_t h1, Mk_operand_44]
  · rw [Mk_operand, grd_t (by exact ⟨lv.1, lv.2⟩), bnd, grd_t (by exact ⟨by omega, by omega⟩), if_neg (by omega), bnd, grd_t (by exact ⟨by omega, by omega⟩), if_pos (by omega), grd_t (by exact ⟨by omega, by omega⟩), Mk_operand_74, a4]
/-- cells that are new, and nothing of the class's state but some -/
def NW (π : Sh) (σ : St) (π' : Sh) (σ' : St) : Prop := ext π π' ∧ (∀ (f : Nat) (i : Int), i < nn π → ¬ (i = 3 ∧ 87 ≤ f ∧ f ≤ 89) → fl σ' f i = fl σ f i) ∧ ∀ a j : Int, a < nn π → el σ' a j = el σ a j
theorem NW.hx {π π' : Sh} {σ σ' : St} (h : NW π σ π' σ') : HX π σ π' σ' := HX.all h.1 (fun f i hf hi => h.2.1 f i hi (by unfold inF at hf; omega)) (fun a j _ ha => h.2.2 a j ha)
theorem NW.tr {π π1 π2 : Sh} {σ σ1 σ2 : St} (h : NW π σ π1 σ1) (k : NW π1 σ1 π2 σ2) : NW π σ π2 σ2 := ⟨h.1.tr k.1, fun f i a b => (k.2.1 f i (by have := h.1.1; omega) b).trans (h.2.1 f i a b), fun a j x => (k.2.2 a j (by have := h.1.1; omega)).trans (h.2.2 a j x)⟩
theorem VR.nw {π π' : Sh} {σ σ' : St} {o r : Int} (hS : SHs π) (h : NW π σ π' σ') (k : VR π σ o r) : VR π' σ' o r := by
  have n56 := hS.1
  have e85 : fl σ' 85 3 = fl σ 85 3 := h.2.1 85 3 (by omega) (by omega)
  have e6 : ∀ j, el σ' 6 j = el σ 6 j := fun j => h.2.2 6 j (by omega)
  have e7 : ∀ j, el σ' 7 j = el σ 7 j := fun j => h.2.2 7 j (by omega)
  have e5 : ∀ j, el σ' 5 j = el σ 5 j := fun j => h.2.2 5 j (by omega)
  obtain ⟨h1, h2, k⟩ := k
  have d0 := h2.2.1
  have d1 := h2.1
  have f24 : fl σ' 24 (el σ 6 (fl σ 85 3)) = fl σ 24 (el σ 6 (fl σ 85 3)) := h.2.1 24 _ d0 (by omega)
  refine ⟨h1.ext h.1, by rw [e85, e6]; exact h2.ext h.1, ?_⟩
  rw [e85, e6, e7, e5]
  rcases k with ⟨a1, a2, a3, a4, a5, a6, a7, a8, a9⟩ | k
  · left
    rw [f24, h.2.1 2 _ a3.2.1 (by omega), h.2.1 1 _ a3.2.1 (by omega), (h.1.2.2 _ a6.2.1).2, h.2.2 _ _ a6.2.1]
    exact ⟨a1, a2, a3.ext h.1, a4, a5, a6.ext h.1, a7, a8, a9⟩
  · exact Or.inr k
/-- operands and the reference's kids -/
def OPR (π : Sh) (σ τ : St) : List Kid → List Kid → Prop
  | [], [] => True
  | o :: os, k :: ks => (o.2 = k.2 ∧ ∃ r, VR π σ o.1 r ∧ PRn π σ τ r k.1 ∧ KOK τ k) ∧ OPR π σ τ os ks
  | _, _ => False
theorem OPR.len {π : Sh} {σ τ : St} : ∀ {os ks : List Kid}, OPR π σ τ os ks → os.length = ks.length
  | [], [], _ => rfl
  | [], _ :: _, h => h.elim
  | _ :: _, [], h => h.elim
  | _ :: os, _ :: ks, h => by rw [List.length_cons, List.length_cons, h.2.len]
theorem OPR.w {π : Sh} {σ τ : St} : ∀ {os ks : List Kid}, OPR π σ τ os ks → wS os = wS ks ∧ ∀ n, wS (os.take n) = wS (ks.take n)
  | [], [], _ => ⟨rfl, fun n => by simp⟩
  | [], _ :: _, h => h.elim
  | _ :: _, [], h => h.elim
  | o :: os, k :: ks, h => by
    obtain ⟨a, b⟩ := h.2.w
    have e := h.1.1
    refine ⟨by show o.2.1 * o.2.2 + _ = k.2.1 * k.2.2 + _; rw [a, e], fun n => ?_⟩
    cases n with
    | zero => rfl
    | succ n => rw [List.take_succ_cons, List.take_succ_cons]; show o.2.1 * o.2.2 + _ = k.2.1 * k.2.2 + _; rw [b n, e]
section CB2
variable {N : Nat}
/-- a step of a body: all that making reads of it -/
def SRq (π : Sh) (σ : St) (s K place a b c d cnt : Int) (ops : List Kid) : Prop := ob π s 10 ∧ CKx π σ s K a b c d ops ∧ fl σ 201 s = place ∧ (fl σ 206 s = cnt ∧ (cnt = 0 ∨ cnt = 1)) ∧ fl σ 209 s = ops.length ∧ ops.length ≤ 2000 ∧ (ob π (fl σ 210 s) 22 ∧ ops.length ≤ ln π (fl σ 210 s) ∧ ln π (fl σ 210 s) < 100000 ∧ 56 ≤ fl σ 210 s ∧ At (fun i k => el σ (fl σ 210 s) i = k.1) 0 ops)
def bsd (cnt : Int) (n : Nat) : Int := if cnt = 0 then 0 else max 0 ((n : Int) - 2)
theorem c_fill {τ σ0 : St} {π0 π : Sh} {s x2 A K place a b c d cnt : Int} {ops0 : List Kid} (hS : SHs π0) (hs : SRq π0 σ0 s K place a b c d cnt ops0) (lv : 0 ≤ fl σ0 85 3 ∧ fl σ0 85 3 < 13) : ∀ (ops ks : List Kid) (n : Nat) (σ : St) (i : Int) (D : List Kid), ops.length < n → NW π0 σ0 π σ → (ops ≠ [] → ob π A 26 ∧ ln π A = ops0.length ∧ nn π0 ≤ A) → At (fun i k => el σ0 (fl σ0 210 s) i = k.1) i ops → OPR π0 σ0 τ ops ks → 0 ≤ i → i + ops.length = ops0.length → (D.length : Int) = i → At (fun j (k : Kid) => ob π0 (el σ A j) 5 ∧ PRn π0 σ0 τ (el σ A j) k.1 ∧ KOK τ k) 0 D → ∃ σ', Mk_build_63 N n π σ s x2 A i = Mk_build_97 N (nO π 5 7) (zO σ' (nn π) dfl) s x2 A (nn π) ∧ NW π0 σ0 π σ' ∧ (∀ f i, fl σ' f i = fl σ f i) ∧ (∀ x j, x < nn π0 → el σ' x j = el σ x j) ∧ At (fun j (k : Kid) => ob π0 (el σ' A j) 5 ∧ PRn π0 σ0 τ (el σ' A j) k.1 ∧ KOK τ k) 0 (D ++ ks) := by
  obtain ⟨s1, s2, s3, s4, s5, s6, s7, s8, s9, s10, s11⟩ := id hs
  intro ops
  induction ops with
  | nil =>
    intro ks n σ i D hn nw hA hP hO i0 h1 hD hK
    cases ks with
    | cons _ _ => exact hO.elim
    | nil =>
      cases n with
      | zero => omega
      | succ n =>
        simp only [List.length_nil] at h1
        have e209 : fl σ 209 s = ops0.length := (nw.2.1 209 s s1.2.1 (by omega)).trans s5
        refine ⟨σ, ?_, nw, fun _ _ => rfl, fun _ _ _ => rfl, by rw [List.append_nil]; exact hK⟩
        rw [Mk_build_63, grd_t (s1.ext nw.1), grd_t (by exact ⟨by omega, by omega⟩), e209, grd_t (by exact ⟨by omega, by omega⟩), if_neg (by omega)]
  | cons o ops ih =>
    intro ks n σ i D hn nw hA hP hO i0 h1 hD hK
    cases ks with
    | nil => exact hO.elim
    | cons k ks =>
      cases n with
      | zero => omega
      | succ n =>
        simp only [List.length_cons] at h1 hn
        obtain ⟨⟨o1, r, o2, o3, o4⟩, hO'⟩ := hO
        obtain ⟨A1, A2, A3⟩ := hA (by simp)
        have sl := s1.2.1
        have e209 : fl σ 209 s = ops0.length := (nw.2.1 209 s sl (by omega)).trans s5
        have e210 : fl σ 210 s = fl σ0 210 s := nw.2.1 210 s sl (by omega)
        have ea : el σ (fl σ0 210 s) i = o.1 := (nw.2.2 _ _ s7.2.1).trans hP.1
        have lv' : 0 ≤ fl σ 85 3 ∧ fl σ 85 3 < 13 := by
          have n56 := hS.1
          rw [nw.2.1 85 3 (by omega) (by omega)]; exact lv
        have op := c_operand (N := N) lv' (o2.nw hS nw)
        have rb := o2.1
        have nw' : NW π0 σ0 π (se σ A i r) := ⟨nw.1, nw.2.1, fun x j hx => by rw [el_se, if_neg (by omega)]; exact nw.2.2 x j hx⟩
        have kk : ((D ++ [k]).length : Int) = i + 1 := by rw [List.length_append]; simp only [List.length_cons, List.length_nil]; omega
        obtain ⟨σ', q1, q2, q3, q4, q5⟩ := ih ks n (se σ A i r) (i + 1) (D ++ [k]) (by omega) nw' (fun _ => ⟨A1, A2, A3⟩) hP.2 hO' (by omega) (by omega) kk (At.snoc (hK.mono (fun j x j0 j1 _ hx => by
          rw [el_se, if_neg (by omega)]; exact hx)) (by
          rw [Int.zero_add, hD, el_ses]
          exact ⟨rb, o3, o4⟩))
        refine ⟨σ', ?_, q2, q3, fun x j hx => by rw [q4 x j hx, el_se, if_neg (by omega)], by rw [List.append_assoc] at q5; exact q5⟩
        rw [Mk_build_63, grd_t (s1.ext nw.1), grd_t (by exact ⟨by omega, by omega⟩), e209, grd_t (by exact ⟨by omega, by omega⟩), if_pos (by omega), e210, grd_t (s7.ext nw.1), grd_t (by rw [show ina π (fl σ0 210 s) i = (0 ≤ i ∧ i < ln π (fl σ0 210 s) ∧ i < 2147483648) from rfl, (nw.1.2.2 _ s7.2.1).2]; exact ⟨i0, by omega, by omega⟩), ea, op, Option.bind_some]
        simp only
        rw [grd_t A1, grd_t (by exact ⟨i0, by omega, by omega⟩), grd_t (Or.inr (rb.ext nw.1))]
        exact q1
theorem CKx.cg {π : Sh} {σ τ : St} {s K a b c d : Int} {os ks : List Kid} (h : OPR π σ τ os ks) (hk : CKx π σ s K a b c d os) : CKx π σ s K a b c d ks := by
  obtain ⟨w1, w2⟩ := h.w
  have le := h.len
  obtain ⟨x1, x2, x3, x4, x5, x6, x7, x8⟩ := hk
  refine ⟨x1, x2, by rw [← w1]; exact x3, x4, x5, x6, fun hc => ?_, x8⟩
  obtain ⟨y1, y2, y3, y4, y5⟩ := x7 hc
  unfold WAx
  rw [← le]
  refine ⟨y1, y2, y3, ?_, fun i i0 i1 => by rw [y5 i i0 i1, w2]⟩
  have : ∀ (os ks : List Kid) (i : Int), OPR π σ τ os ks → At (fun i (k : Kid) => el σ (fl σ 211 s) i = k.2.1 ∧ el σ (fl σ 212 s) i = k.2.2) i os → At (fun i (k : Kid) => el σ (fl σ 211 s) i = k.2.1 ∧ el σ (fl σ 212 s) i = k.2.2) i ks := by
    intro os
    induction os with
    | nil =>
      intro ks i h _
      cases ks with
      | nil => trivial
      | cons _ _ => exact h.elim
    | cons o os ih =>
      intro ks i h ha
      cases ks with
      | nil => exact h.elim
      | cons k ks => exact ⟨by show el σ (fl σ 211 s) i = k.2.1 ∧ el σ (fl σ 212 s) i = k.2.2; rw [← h.1.1]; exact ha.1, ih ks (i + 1) h.2 ha.2⟩
  exact this os ks 0 h y4
theorem c_excess {π : Sh} {σ : St} {r G C R W D v : Int} (h : ob π r 5) (h1 : fl σ 102 r = v) (hv : okG 1000000000000000000 v G) (hG : 1 ≤ G) (h2 : fl σ 103 r = C) (h3 : fl σ 104 r = R) (h4 : fl σ 105 r = W) (h5 : fl σ 106 r = D) (b2 : 0 ≤ C ∧ C ≤ 1000000000) (b3 : 1 ≤ R ∧ R ≤ 1000000000) (b4 : 1 ≤ W ∧ W ≤ 4000000000) (b5 : 1 ≤ D ∧ D ≤ 61) : Pt_excess N π σ r = some (σ, xs G C R W D) := by
  have v1 : 1 ≤ v ∧ v ≤ 1000000000000000000 ∧ (1000000 < v ↔ 1000000 < G) := by rcases hv with ⟨a, rfl⟩ | ⟨a, b, c⟩ <;> omega
  rw [Pt_excess, grd_t h, h1, h2, h3, h4, h5, grd_t (by exact ⟨by omega, by omega⟩), grd_t (by exact ⟨by omega, by omega⟩), grd_t (by exact ⟨by omega, by omega⟩), grd_t (by exact ⟨by omega, by omega⟩), grd_t (by exact ⟨by omega, by omega⟩), xs]
  by_cases c1 : 1000000 < G
  · rw [if_pos (v1.2.2.2 c1), if_pos c1]
  · rw [if_neg (fun k => c1 (v1.2.2.1 k)), if_neg c1]
    by_cases c2 : 400 < C
    · rw [if_pos c2, if_pos c2]
    · rw [if_neg c2, if_neg c2]
      by_cases c3 : 64 < R
      · rw [if_pos c3, if_pos c3]
      · rw [if_neg c3, if_neg c3]
        by_cases c4 : 50000 < W
        · rw [if_pos c4, if_pos c4]
        · rw [if_neg c4, if_neg c4]
          by_cases c5 : 60 < D
          · rw [if_pos c5, if_pos c5]
          · rw [if_neg c5, if_neg c5]
end CB2
