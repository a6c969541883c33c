/-! a FUN is applied -/
section AP
variable {N : Nat} {U U' : Gl → Int → Stq → Prop} {ℓ : Int} {τp : St} {vlo P lo hi j u v e δ lo1 hi1 lo2 hi2 u1 v1 e1 δ1 u2 v2 e2 δ2 : Int} {k k1 k2 : Nat} {Kn : List Int} {seg seg1 seg2 : List Stq} {av avq : List (Int × Int)} {w n place f a b c d oi oF oa F : Int}
theorem apply_rev {τ : St} (hn : inb n 32768) (h94 : el τ 94 n = 9) : r_does N τ 11 n = r_one N τ 12 0 0 0 0 (el τ 93 n) := by
  rw [does11, r_apply, grd_t hn, h94, grd_t (by decide), if_pos rfl, bsm]
theorem ap_rev (hN : 30000001 ≤ N) (hn : ND lo hi n) (h94 : el τp 94 n = 9) (h93 : el τp 93 n = place) (hu : 1 ≤ u) (hv : 1 ≤ v) (hk : 1 ≤ k) (hd : 0 ≤ δ) : TKS N U ℓ τp vlo lo hi P Kn j [(12, place, 0, 0, 0, 0, 0, [(oi, 1, 1)])] u v k 1 δ [(11, n)] [oi] [P + j] avq [] :=
  tk_one hN (by decide) (by unfold IV; simp) hu hv hk hd (fun τ ht => by
    rw [apply_rev hn.b ((ht 94 n (by omega) (by omega) hn.2.1 hn.2.2).trans h94), ht 93 n (by omega) (by omega) hn.2.1 hn.2.2, h93])
theorem apply_fun {τ : St} (hn : inb n 32768) (h94 : el τ 94 n = 13) (h92 : el τ 92 n = f) (hf : 0 ≤ f ∧ f ≤ 20 ∧ f ≠ 14 ∧ f ≠ 15) : r_does N τ 11 n = r_function N τ n := by
  rw [does11, r_apply, grd_t hn, h94, grd_t (by decide)]
  iterate 4 rw [if_neg (by decide)]
  rw [h92, grd_t (by exact ⟨by omega, by omega⟩), if_neg hf.2.2.1, if_neg hf.2.2.2, r_apply_223, bsm]
/-- struct, mask: what was kept goes below -/
theorem ap_two (hN : 30000001 ≤ N) (hn : ND lo hi n) (h94 : el τp 94 n = 13) (hF : FN τp n place f a b c d) (hf : f = 14 ∨ f = 15) (h87 : el τp 87 n = F) (hFn : inb F 32768) (hav : (F, oa) ∈ avq) (hu : 1 ≤ u) (hv : 2 ≤ v) (hk : 1 ≤ k) (hd : 0 ≤ δ) : TKS N U ℓ τp vlo lo hi P Kn j [((fK f a b c d).1, place, 0, 0, 0, 0, 0, [(oa, 1, 1), (oi, 1, 1)])] u v k 0 δ [(11, n)] [oi] [P + j] avq [] := by
  have fk : (fK f a b c d).1 = 23 ∧ f = 14 ∨ (fK f a b c d).1 = 24 ∧ f = 15 := by rcases hf with h | h <;> subst h <;> simp [fK]
  have fk2 : (fK f a b c d).2.1 = 0 ∧ (fK f a b c d).2.2.1 = 0 ∧ (fK f a b c d).2.2.2.1 = 0 ∧ (fK f a b c d).2.2.2.2 = 0 := by rcases hf with h | h <;> subst h <;> simp [fK]
  refine TKS.made hN (by rcases fk with h | h <;> omega) (by unfold IV; rcases fk with h | h <;> rw [h.1] <;> simp) (fun x hx => by simp at hx; rcases hx with rfl | rfl <;> exact (by decide : ((1 : Int) ≤ 1 ∧ (1 : Int) ≤ 16) ∧ (1 : Int) ≤ 1 ∧ (1 : Int) ≤ 16)) (by simp) hk hu (by omega) (by simp [bsd]) ⟨by simp [bsd]; omega, hd⟩ (fun g π σ τ Kn' base T Q ht hK hTF => ?_)
  obtain ⟨f1, f2, f3, f4, f5, f6, f7, f8, f9, f10⟩ := hTF
  have q : fl τ 68 0 = Q + 1 := by rw [f2]; simp
  have e94 := (ht 94 n (by omega) (by omega) hn.2.1 hn.2.2).trans h94
  have e87 := (ht 87 n (by omega) (by omega) hn.2.1 hn.2.2).trans h87
  have hF' := hF.cg ht hn
  obtain ⟨τ2, hτ2⟩ : ∃ τ2, τ2 = sf (se (sf (se (sf τ 68 0 Q) 54 Q (el τ 84 F)) 68 0 (Q + 1)) 54 (Q + 1) (el τ 54 Q)) 68 0 (Q + 2) := ⟨_, rfl⟩
  have rf : RF T Q vlo lo hi τ τ2 := by
    rw [hτ2]
    exact ⟨fun g i _ h2 => by rw [fl_sfn _ _ _ _ h2, fl_se, fl_sfn _ _ _ _ h2, fl_se, fl_sfn _ _ _ _ h2], fun a i h1 _ _ _ => by rw [el_sf, el_sen _ _ _ _ h1, el_sf, el_sen _ _ _ _ h1, el_sf], fun i _ => ⟨by rw [el_sf, el_sen _ _ _ _ (by decide), el_sf, el_sen _ _ _ _ (by decide), el_sf], by rw [el_sf, el_sen _ _ _ _ (by decide), el_sf, el_sen _ _ _ _ (by decide), el_sf]⟩, fun i hi => by rw [el_sf, el_sej _ _ _ (by omega), el_sf, el_sej _ _ _ (by omega), el_sf], fun i _ _ => by rw [el_sf, el_sen _ _ _ _ (by decide), el_sf, el_sen _ _ _ _ (by decide), el_sf]⟩
  have g68 : fl τ2 68 0 = Q + 2 := by rw [hτ2, fl_sfs]
  have g11 : fl τ2 11 0 = 0 := by rw [rf.1 11 0 (by decide) (by decide)]; exact f7
  have gQ : el τ2 54 Q = el τ 84 F := by rw [hτ2, el_sf, el_sej _ _ _ (by omega), el_sf, el_ses]
  have gQ1 : el τ2 54 (Q + 1) = el τ 54 Q := by rw [hτ2, el_sf, el_ses]
  have hF2 : FN τ2 n place f a b c d := by
    unfold FN
    rw [rf.2.1 93 n (by decide) (by decide) (by decide) (by decide), rf.2.1 92 n (by decide) (by decide) (by decide) (by decide), rf.2.1 91 n (by decide) (by decide) (by decide) (by decide), rf.2.1 90 n (by decide) (by decide) (by decide) (by decide), rf.2.1 89 n (by decide) (by decide) (by decide) (by decide), rf.2.1 88 n (by decide) (by decide) (by decide) (by decide)]
    exact hF'
  refine ⟨τ2, [(el τ2 54 Q, 1, 1), (el τ2 54 (Q + 1), 1, 1)], ?_, rf, by rw [hτ2, fl_sfn _ _ _ _ (by decide), fl_se, fl_sfn _ _ _ _ (by decide), fl_se, fl_sfn _ _ _ _ (by decide)]; exact f1, ⟨⟨rfl, ?_⟩, ⟨rfl, ?_⟩, trivial⟩⟩
  · have r2 := two_rCM (N := N) τ2 (fK f a b c d).1 (fK f a b c d).2.1 (fK f a b c d).2.2.1 (fK f a b c d).2.2.2.1 (fK f a b c d).2.2.2.2 place Q (by omega) g11 g68 (by omega)
    rw [fk2.1, fk2.2.1, fk2.2.2.1, fk2.2.2.2] at r2
    have r3 := ofF_two (N := N) hn.b hF2 (show isTwo f by unfold isTwo; omega)
    rw [fk2.1, fk2.2.1, fk2.2.2.1, fk2.2.2.2, r2] at r3
    have r4 := fun_plain (N := N) hn.b hF2 (by omega)
    have r198 : r_apply_198 N τ n = r_function N τ2 n := by
      have q0 : fl (sf τ 68 0 Q) 68 0 = Q := fl_sfs _ _ _ _
      have q1 : fl (sf (se (sf τ 68 0 Q) 54 Q (el τ 84 F)) 68 0 (Q + 1)) 68 0 = Q + 1 := fl_sfs _ _ _ _
      rw [r_apply_198, r_pop, q, show Q + 1 - 1 = Q by omega, grd_t (by exact ⟨by omega, by omega⟩), Option.bind_some, grd_t hn.b, grd_t (by show inb (el τ 87 n) 32768; rw [e87]; exact hFn)]
      simp only [el_sf]
      rw [e87, r_push, q0, grd_t (by exact ⟨by omega, by omega⟩), Option.bind_some, r_push, q1, grd_t (by exact ⟨by omega, by omega⟩), Option.bind_some, r_apply_223, bsm, show Q + 1 + 1 = Q + 2 by omega, ← hτ2]
    rw [does11, r_apply, grd_t hn.b, e94, grd_t (by decide)]
    iterate 4 rw [if_neg (by decide)]
    rw [hF'.2.1, grd_t (by exact ⟨by omega, by omega⟩)]
    have fin : r_apply_198 N τ n = rCM N τ2 (bsd 0 ([(oa, 1, 1), (oi, 1, 1)] : List Kid).length) Q (fK f a b c d).1 0 0 0 0 place [(el τ2 54 Q, 1, 1), (el τ2 54 (Q + 1), 1, 1)] := by
      rw [r198, r4, r3]; rfl
    rcases hf with h | h
    · rw [if_pos h]; exact fin
    · rw [if_neg (by omega), if_pos h]; exact fin
  · show OVa π σ τ2 base (base + P + j) Kn' oa (el τ2 54 Q)
    rw [gQ]; exact (f4 _ hav).rf rf
  · show OVa π σ τ2 base (base + P + j) Kn' oi (el τ2 54 (Q + 1))
    rw [gQ1]; exact f3.1.rf rf
/-- an operator -/
theorem ap_op (hN : 30000001 ≤ N) (hn : ND lo hi n) (h94 : el τp 94 n = 12) (h93 : el τp 93 n = place) (h92 : el τp 92 n = a ∧ i32 a) (h87 : el τp 87 n = F) (hFn : inb F 32768) (hav : (F, oa) ∈ avq) (hu : 1 ≤ u) (hv : 2 ≤ v) (hk : 1 ≤ k) (hd : 0 ≤ δ) : TKS N U ℓ τp vlo lo hi P Kn j [(25, place, a, 0, 0, 0, 0, [(oi, 1, 1), (oa, 1, 1)])] u v k 0 δ [(11, n)] [oi] [P + j] avq [] := by
  refine TKS.made hN (by decide) (by unfold IV; simp; exact h92.2) (fun x hx => by simp at hx; rcases hx with rfl | rfl <;> exact (by decide : ((1 : Int) ≤ 1 ∧ (1 : Int) ≤ 16) ∧ (1 : Int) ≤ 1 ∧ (1 : Int) ≤ 16)) (by simp) hk hu (by omega) (by simp [bsd]) ⟨by simp [bsd]; omega, hd⟩ (fun g π σ τ Kn' base T Q ht hK hTF => ?_)
  obtain ⟨f1, f2, f3, f4, f5, f6, f7, f8, f9, f10⟩ := hTF
  have q : fl τ 68 0 = Q + 1 := by rw [f2]; simp
  have e94 := (ht 94 n (by omega) (by omega) hn.2.1 hn.2.2).trans h94
  have e93 := (ht 93 n (by omega) (by omega) hn.2.1 hn.2.2).trans h93
  have e92 := (ht 92 n (by omega) (by omega) hn.2.1 hn.2.2).trans h92.1
  have e87 := (ht 87 n (by omega) (by omega) hn.2.1 hn.2.2).trans h87
  obtain ⟨τ2, hτ2⟩ : ∃ τ2, τ2 = sf (se τ 54 (Q + 1) (el τ 84 F)) 68 0 (Q + 1 + 1) := ⟨_, rfl⟩
  have rf : RF T Q vlo lo hi τ τ2 := by rw [hτ2]; exact push_rf τ (by omega)
  have g68 : fl τ2 68 0 = Q + 2 := by rw [hτ2, fl_sfs]; omega
  have g11 : fl τ2 11 0 = 0 := by rw [rf.1 11 0 (by decide) (by decide)]; exact f7
  have gQ : el τ2 54 Q = el τ 54 Q := by rw [hτ2, el_sf, el_sej _ _ _ (by omega)]
  have gQ1 : el τ2 54 (Q + 1) = el τ 84 F := by rw [hτ2, el_sf, el_ses]
  refine ⟨τ2, [(el τ2 54 Q, 1, 1), (el τ2 54 (Q + 1), 1, 1)], ?_, rf, by rw [hτ2, fl_sfn _ _ _ _ (by decide), fl_se]; exact f1, ⟨⟨rfl, ?_⟩, ⟨rfl, ?_⟩, trivial⟩⟩
  · have r2 := two_rCM (N := N) τ2 25 a 0 0 0 place Q (by omega) g11 g68 (by omega)
    rw [does11, r_apply, grd_t hn.b, e94, grd_t (by decide)]
    iterate 3 rw [if_neg (by decide)]
    rw [if_pos rfl, e87, grd_t hFn, r_push, q, grd_t (by exact ⟨by omega, by omega⟩), Option.bind_some, bsm, ← hτ2, rf.2.1 92 n (by decide) (by decide) (by decide) (by decide), rf.2.1 93 n (by decide) (by decide) (by decide) (by decide), e92, e93, r2]
    rfl
  · show OVa π σ τ2 base (base + P + j) Kn' oi (el τ2 54 Q)
    rw [gQ]; exact f3.1.rf rf
  · show OVa π σ τ2 base (base + P + j) Kn' oa (el τ2 54 (Q + 1))
    rw [gQ1]; exact (f4 _ hav).rf rf
/-- the chain of values is pushed -/
theorem apply138 {τ0 : St} {x1 p T Q vlo' lo' hi' : Int} : ∀ (cs : List Int) (m : Nat) (τ : St) (c i : Int), cs.length < m → CHn τ0 lo hi cs c → RF T Q vlo' lo' hi' τ0 τ → (∀ x, el τ 84 x = el τ0 84 x) → fl τ 68 0 = Q + i → 0 ≤ i → 0 ≤ Q → Q + i + cs.length < 20000 → ∃ τ', r_apply_138 N m τ x1 p c = r_use N τ' x1 ∧ RF T Q vlo' lo' hi' τ0 τ' ∧ fl τ' 65 0 = fl τ 65 0 ∧ fl τ' 68 0 = Q + i + cs.length + 1 ∧ (∀ y, y < Q + i → el τ' 54 y = el τ 54 y) ∧ At (fun y (x : Int) => el τ' 54 y = el τ0 84 x) (Q + i) cs ∧ el τ' 54 (Q + i + cs.length) = p := by
  intro cs
  induction cs with
  | nil =>
    intro m τ c i hm hc rf h84 h68 i0 q0 hb
    cases m with
    | zero => omega
    | succ m =>
      have hc' : c = -1 := hc
      simp only [List.length_nil] at hb
      refine ⟨sf (se τ 54 (Q + i) p) 68 0 (Q + i + 1), ?_, rf.tr (push_rf τ (by omega)), by rw [fl_sfn _ _ _ _ (by decide), fl_se], by rw [fl_sfs]; simp, fun y hy => by rw [el_sf, el_sej _ _ _ (by omega)], trivial, by simp only [List.length_nil]; rw [el_sf, show Q + i + ((0 : Nat) : Int) = Q + i by omega, el_ses]⟩
      rw [r_apply_138, hc', grd_t (by decide), if_pos rfl, r_push, h68, grd_t (by exact ⟨by omega, by omega⟩), Option.bind_some, bsm]
  | cons x cs ih =>
    intro m τ c i hm hc rf h84 h68 i0 q0 hb
    cases m with
    | zero => omega
    | succ m =>
      obtain ⟨⟨k1, k2, k3⟩, k4⟩ := hc
      simp only [List.length_cons] at hb hm
      have b := k2.1
      have rf1 : RF T Q vlo' lo' hi' τ0 (sf (se τ 54 (Q + i) (el τ 84 x)) 68 0 (Q + i + 1)) := rf.tr (push_rf τ (by omega))
      obtain ⟨τ', q1, q2, q3, q4, q5, q6, q7⟩ := ih m (sf (se τ 54 (Q + i) (el τ 84 x)) 68 0 (Q + i + 1)) (el τ0 85 x) (i + 1) (by omega) k4 rf1 (fun y => by rw [el_sf, el_sen _ _ _ _ (by decide)]; exact h84 y) (by rw [fl_sfs]; omega) (by omega) q0 (by omega)
      refine ⟨τ', ?_, q2, by rw [q3, fl_sfn _ _ _ _ (by decide), fl_se], by rw [q4]; simp only [List.length_cons]; omega, fun y hy => by rw [q5 y (by omega), el_sf, el_sej _ _ _ (by omega)], ⟨?_, by rw [show Q + (i + 1) = Q + i + 1 by omega] at q6; exact q6⟩, by simp only [List.length_cons]; rw [show Q + i + ((cs.length + 1 : Nat) : Int) = Q + (i + 1) + cs.length by omega]; exact q7⟩
      · rw [r_apply_138, k1, grd_t (by exact ⟨by omega, by omega⟩), if_neg (by omega), grd_t k2.b, r_push, h68, grd_t (by exact ⟨by omega, by omega⟩), Option.bind_some, bnd, rf1.2.1 85 x (by decide) (by decide) (by decide) (by decide)]
        exact q1
      · show el τ' 54 (Q + i) = el τ0 84 x
        rw [q5 (Q + i) (by omega), el_sf, el_ses, h84]
/-- a definition as a FUN -/
theorem ap_name {Dd dd : Int} {cs oas : List Int} (hN : 30000001 ≤ N) (hU : ℓ < 12 → ∀ g vlo x, U g vlo x → UDo N U' ℓ g vlo x) (hn : ND lo hi n) (h94 : el τp 94 n = 10) (h92 : el τp 92 n = dd) (h93 : el τp 93 n = place) (hch : CHn τp lo hi cs (el τp 87 n)) (hl : cs.length = oas.length ∧ oas.length ≤ 3) (hav : ∀ x ∈ cs.zip oas, x ∈ avq) (hu : HLv (ℓ + 1) + 2 ≤ u) (hv : HLv (ℓ + 1) + 6 ≤ v) (hk : 1 ≤ k) (he : e ≤ 2) (hd : 0 ≤ δ) : TKS N U ℓ τp vlo lo hi P Kn j [(99, place, Dd, dd, 0, 0, 0, (oas ++ [oi]).map (fun o => (o, 1, 1)))] u v k e δ [(11, n)] [oi] [P + j] avq [] := by
  refine TKS.use hN hU ⟨hn.1.1, hn.1.2, hn.2.1, hn.2.2⟩ h92 h93 hu (by omega) hk he hd (fun g π σ τ Kn' base T Q ht hK hTF => ?_)
  obtain ⟨f1, f2, f3, f4, f5, f6, f7, f8, f9, f10⟩ := hTF
  have q : fl τ 68 0 = Q + 1 := by rw [f2]; simp
  have e94 := (ht 94 n (by omega) (by omega) hn.2.1 hn.2.2).trans h94
  have HLv0 : 0 ≤ HLv (ℓ + 1) := by unfold HLv; omega
  have rf0 : RF T Q vlo lo hi τ (sf τ 68 0 Q) := ⟨fun f i _ h => fl_sfn _ _ _ _ h, fun _ _ _ _ _ _ => rfl, fun _ _ => ⟨rfl, rfl⟩, fun _ _ => rfl, fun _ _ _ => rfl⟩
  have hch' : CHn τ lo hi cs (el τ 87 n) := by rw [ht 87 n (by omega) (by omega) hn.2.1 hn.2.2]; exact hch.cg ht
  obtain ⟨τ2, q1, q2, q3, q4, q5, q6, q7⟩ := apply138 (N := N) (x1 := n) (p := el τ 54 Q) (τ0 := τ) cs N (sf τ 68 0 Q) (el τ 87 n) 0 (by omega) hch' rf0 (fun _ => rfl) (by rw [fl_sfs]; omega) (by omega) (by omega) (by omega)
  rw [Int.add_zero] at q4 q6 q7
  have mm : ((oas ++ [oi]).map (fun o => (o, 1, 1)) : List Kid).map (fun k => k.1) = oas ++ [oi] := by
    rw [List.map_map]; exact List.map_id _
  refine ⟨τ2, ?_, q2, by rw [q3, fl_sfn _ _ _ _ (by decide)]; exact f1, by rw [q4, List.length_map, List.length_append]; simp only [List.length_cons, List.length_nil]; omega, ?_⟩
  · rw [does11, r_apply, grd_t hn.b, e94, grd_t (by decide), if_neg (by decide), if_pos rfl, r_pop, q, show Q + 1 - 1 = Q by omega, grd_t (by exact ⟨by omega, by omega⟩), Option.bind_some, bnd]
    simp only [el_sf]
    exact q1
  · rw [mm]
    refine At.app ?_ ⟨?_, trivial⟩
    · have : ∀ (cs oas : List Int) (y : Int), cs.length = oas.length → (∀ x ∈ cs.zip oas, x ∈ avq) → At (fun y (x : Int) => el τ2 54 y = el τ 84 x) y cs → At (fun i o => OVa π σ τ2 base (base + P + j) Kn' o (el τ2 54 i)) y oas := by
        intro cs
        induction cs with
        | nil => intro oas y h _ _; cases oas with | nil => trivial | cons _ _ => simp at h
        | cons x cs ih =>
          intro oas y h hav hA
          cases oas with
          | nil => simp at h
          | cons o oas =>
            refine ⟨?_, ih oas (y + 1) (by simpa using h) (fun z hz => hav z (by simp [hz])) hA.2⟩
            show OVa π σ τ2 base (base + P + j) Kn' o (el τ2 54 y)
            have e : el τ2 54 y = el τ 84 x := hA.1
            rw [e]
            exact (f4 (x, o) (hav (x, o) (by simp))).rf q2
      exact this cs oas Q hl.1 hav q6
    · show OVa π σ τ2 base (base + P + j) Kn' oi (el τ2 54 (Q + oas.length))
      rw [← hl.1, q7]
      exact f3.1.rf q2
/-- a chain of pieces: the last comes first -/
theorem apply62 {τ0 : St} : ∀ (cs : List Int) (m : Nat) (τ : St) (c : Int), cs.length < m → CHn τ0 lo hi cs c → (∀ x, el τ 85 x = el τ0 85 x) → 0 ≤ fl τ 65 0 → fl τ 65 0 + cs.length ≤ 20000 → r_apply_62 N m τ c = some (pTs τ (cs.reverse.map (fun c => (11, c)))) := by
  intro cs
  induction cs with
  | nil =>
    intro m τ c hm hc h85 h0 h1
    cases m with
    | zero => omega
    | succ m =>
      have hc' : c = -1 := hc
      rw [r_apply_62, hc', grd_t (by decide), if_pos rfl]; rfl
  | cons x cs ih =>
    intro m τ c hm hc h85 h0 h1
    cases m with
    | zero => omega
    | succ m =>
      obtain ⟨⟨k1, k2, k3⟩, k4⟩ := hc
      simp only [List.length_cons] at h1 hm
      have b := k2.1
      have e2 : fl (pT τ (11, x)) 65 0 = fl τ 65 0 + 1 := pTs_65 (τ := τ) [(11, x)]
      have e1 : ∀ y, el (pT τ (11, x)) 85 y = el τ0 85 y := fun y => (pTs_el (τ := τ) [(11, x)] 85 y (Or.inl ⟨by decide, by decide⟩)).trans (h85 y)
      rw [r_apply_62, k1, grd_t (by exact ⟨by omega, by omega⟩), if_neg (by omega), r_task' (by omega), Option.bind_some, grd_t k2.b, bnd, e1, ih m (pT τ (11, x)) (el τ0 85 x) (by omega) k4 e1 (by omega) (by omega)]
      have app : ∀ (a b : List (Int × Int)) (τ : St), pTs (pTs τ b) a = pTs τ (a ++ b) := by
        intro a b τ
        induction a with
        | nil => rfl
        | cons y a iha => show pT (pTs (pTs τ b) a) y = pT (pTs τ (a ++ b)) y; rw [iha]
      rw [show pT τ (11, x) = pTs τ [(11, x)] from rfl, app, List.reverse_cons, List.map_append]
      rfl
theorem ap_all {cs : List Int} (hN : 30000001 ≤ N) (hn : ND lo hi n) (h94 : el τp 94 n = 11) (hch : CHn τp lo hi cs (el τp 87 n)) (h : TKS N U ℓ τp vlo lo hi P Kn j seg u v k1 e δ (cs.reverse.map (fun c => (11, c))) [oi] [oF] avq []) (hu : 1 ≤ u ∧ cs.length ≤ u) (hl : cs.length ≤ 20000) (hk : k1 + 1 ≤ k) : TKS N U ℓ τp vlo lo hi P Kn j seg u v k e δ [(11, n)] [oi] [oF] avq [] :=
  TKS.push (ts := cs.reverse.map (fun c => (11, c))) hN h hk ⟨hu.1, by rw [List.length_map, List.length_reverse]; exact hu.2⟩ (fun τ ht hT => by
    rw [List.length_map, List.length_reverse] at hT
    rw [does11, r_apply, grd_t hn.b, (ht 94 n (by omega) (by omega) hn.2.1 hn.2.2).trans h94, grd_t (by decide)]
    iterate 2 rw [if_neg (by decide)]
    rw [if_pos rfl, bnd]
    exact apply62 (τ0 := τ) cs N τ _ (by omega) (by rw [ht 87 n (by omega) (by omega) hn.2.1 hn.2.2]; exact hch.cg ht) (fun _ => rfl) hT.1 hT.2)
/-- a function and all that it wants -/
theorem mk_func {fst o : Int} {outs : List Int} (hN : 30000001 ≤ N) (hP : P ≤ 4) (hn : ND lo hi n) (h94 : el τp 94 n = 8) (h87 : el τp 87 n = fst) (h1 : TKS N U ℓ τp vlo lo1 hi1 P Kn j seg1 u1 v1 k1 e1 δ1 [(10, fst)] [] outs [] av) (h2 : TKS N U ℓ τp vlo lo2 hi2 P Kn (j + seg1.length) seg2 u2 v2 k2 e2 δ2 [(12, n)] outs [o] av []) (ha : lo ≤ lo1 ∧ hi1 ≤ hi) (hb : lo ≤ lo2 ∧ hi2 ≤ hi) (hu : u1 + 1 ≤ u ∧ u2 ≤ u ∧ 2 ≤ u) (hv : v1 ≤ v ∧ v2 ≤ v) (hk : k1 + k2 + 1 ≤ k) (he : e ≤ e1 + e2) (hd : δ1 ≤ δ ∧ δ2 ≤ δ + e1) : TKS N U ℓ τp vlo lo hi P Kn j (seg1 ++ seg2) u v k e δ [(1, n)] [] [o] [] [] :=
  TKS.push (ts := [(10, fst), (12, n)]) hN (TKS.sq (k := k1 + k2) (ts1 := [(10, fst)]) (ts2 := [(12, n)]) h1 h2 hP rfl ha hb ⟨by simpa using hu.1, hu.2.1⟩ hv (Nat.le_refl _) he hd (fun x hx => Or.inl hx) (fun x hx => absurd hx (by simp))) hk ⟨by omega, by simp; omega⟩ (fun τ ht hT => by
    simp at hT
    rw [does1, make_func τ n hn.b ((ht 94 n (by omega) (by omega) hn.2.1 hn.2.2).trans h94) (by omega), (ht 87 n (by omega) (by omega) hn.2.1 hn.2.2).trans h87])
theorem mk_call {fst Dd dd : Int} {ops : List Kid} (hN : 30000001 ≤ N) (hP : P ≤ 4) (hU : ℓ < 12 → ∀ g vlo x, U g vlo x → UDo N U' ℓ g vlo x) (hn : ND lo hi n) (h94 : el τp 94 n = 7) (h87 : el τp 87 n = fst) (h92 : el τp 92 n = dd) (h93 : el τp 93 n = place) (h1 : TKS N U ℓ τp vlo lo1 hi1 P Kn j seg1 u1 v1 k1 e1 δ1 [(10, fst)] [] (ops.map (fun k => k.1)) [] []) (ha : lo ≤ lo1 ∧ hi1 ≤ hi) (hu : u1 + 1 ≤ u ∧ HLv (ℓ + 1) + 2 ≤ u ∧ 2 ≤ u) (hv : v1 ≤ v ∧ HLv (ℓ + 1) + 4 ≤ v) (hk : k1 + 2 ≤ k) (he : e ≤ e1 + 2) (hd : δ1 ≤ δ ∧ 0 ≤ δ + e1) : TKS N U ℓ τp vlo lo hi P Kn j (seg1 ++ [(99, place, Dd, dd, 0, 0, 0, ops)]) u v k e δ [(1, n)] [] [P + (j + seg1.length)] [] [] := by
  have h2 : TKS N U ℓ τp vlo lo hi P Kn (j + seg1.length) [(99, place, Dd, dd, 0, 0, 0, ops)] (HLv (ℓ + 1) + 2) (HLv (ℓ + 1) + 4) 1 2 (δ + e1) [(22, n)] (ops.map (fun k => k.1)) [P + (j + seg1.length)] [] [] := TKS.use hN hU ⟨hn.1.1, hn.1.2, hn.2.1, hn.2.2⟩ h92 h93 (Int.le_refl _) (Int.le_refl _) (Nat.le_refl _) (Int.le_refl _) hd.2 (fun g π σ τ Kn' base T Q ht hK hTF => by
    obtain ⟨f1, f2, f3, f4, f5, f6, f7, f8, f9, f10⟩ := hTF
    exact ⟨τ, does22 τ n, rf_rf _ _ _, f1, by rw [f2, List.length_map], f3⟩)
  refine TKS.push (ts := [(10, fst), (22, n)]) hN (TKS.sq (k := k1 + 1) (ts1 := [(10, fst)]) (ts2 := [(22, n)]) h1 h2 hP rfl ha ⟨Int.le_refl _, Int.le_refl _⟩ ⟨by simpa using hu.1, hu.2.1⟩ hv (Nat.le_refl _) he ⟨hd.1, by omega⟩ (fun x hx => Or.inl hx) (fun x hx => absurd hx (by simp))) (by omega) ⟨by omega, by simp; omega⟩ (fun τ ht hT => ?_)
  simp at hT
  rw [does1, make_call τ n hn.b ((ht 94 n (by omega) (by omega) hn.2.1 hn.2.2).trans h94) (by omega), (ht 87 n (by omega) (by omega) hn.2.1 hn.2.2).trans h87]
/-- struct and mask of what lies on the pile -/
theorem tk_ftwo (hN : 30000001 ≤ N) (hn : ND lo hi n) (hF : FN τp n place f a b c d) (hf : f = 14 ∨ f = 15) (hu : 1 ≤ u) (hv : 2 ≤ v) (hk : 1 ≤ k) (hd : 0 ≤ δ) : TKS N U ℓ τp vlo lo hi P Kn j [((fK f a b c d).1, place, 0, 0, 0, 0, 0, [(oa, 1, 1), (oi, 1, 1)])] u v k 0 δ [(12, n)] [oa, oi] [P + j] avq [] := by
  have fk : (fK f a b c d).1 = 23 ∧ f = 14 ∨ (fK f a b c d).1 = 24 ∧ f = 15 := by rcases hf with h | h <;> subst h <;> simp [fK]
  have fk2 : (fK f a b c d).2.1 = 0 ∧ (fK f a b c d).2.2.1 = 0 ∧ (fK f a b c d).2.2.2.1 = 0 ∧ (fK f a b c d).2.2.2.2 = 0 := by rcases hf with h | h <;> subst h <;> simp [fK]
  exact tk_two hN (by rcases fk with h | h <;> omega) (by unfold IV; rcases fk with h | h <;> rw [h.1] <;> simp) hu hv hk hd (fun τ ht => by
    have r3 := ofF_two (N := N) hn.b (hF.cg ht hn) (show isTwo f by unfold isTwo; omega)
    rw [fk2.1, fk2.2.1, fk2.2.2.1, fk2.2.2.2] at r3
    rw [does12, fun_plain hn.b (hF.cg ht hn) (by omega), r3])
/-- a sum, a row, a changed part -/
theorem mk_sum {fst : Int} {outs : List Int} (hN : 30000001 ≤ N) (hn : ND lo hi n) (h94 : el τp 94 n = 3) (h87 : el τp 87 n = fst) (h : TKS N U ℓ τp vlo lo hi P Kn j seg u v k1 e δ [(2, fst)] [] outs [] []) (hu : 2 ≤ u) (hk : k1 + 1 ≤ k) : TKS N U ℓ τp vlo lo hi P Kn j seg u v k e δ [(1, n)] [] outs [] [] :=
  TKS.pushu (ts := [(2, fst)]) hN h hk (by omega) (fun τ ht hT => by
    rw [does1, make_sum τ n hn.b ((ht 94 n (by omega) (by omega) hn.2.1 hn.2.2).trans h94) (by omega), (ht 87 n (by omega) (by omega) hn.2.1 hn.2.2).trans h87])
theorem mk_row {fst o : Int} {outs : List Int} (hN : 30000001 ≤ N) (hP : P ≤ 4) (hn : ND lo hi n) (h94 : el τp 94 n = 1 ∨ el τp 94 n = 2 ∨ el τp 94 n = 23 ∨ el τp 94 n = 25 ∨ el τp 94 n = 26 ∨ el τp 94 n = 27) (h87 : el τp 87 n = fst) (h1 : TKS N U ℓ τp vlo lo1 hi1 P Kn j seg1 u1 v1 k1 e1 δ1 [(4, fst)] [] outs [] []) (h2 : TKS N U ℓ τp vlo lo2 hi2 P Kn (j + seg1.length) seg2 u2 v2 k2 e2 δ2 [(5, n)] outs [o] [] []) (ha : lo ≤ lo1 ∧ hi1 ≤ hi) (hb : lo ≤ lo2 ∧ hi2 ≤ hi) (hu : u1 + 1 ≤ u ∧ u2 ≤ u ∧ 2 ≤ u) (hv : v1 ≤ v ∧ v2 ≤ v) (hk : k1 + k2 + 1 ≤ k) (he : e ≤ e1 + e2) (hd : δ1 ≤ δ ∧ δ2 ≤ δ + e1) : TKS N U ℓ τp vlo lo hi P Kn j (seg1 ++ seg2) u v k e δ [(1, n)] [] [o] [] [] :=
  TKS.push (ts := [(4, fst), (5, n)]) hN (TKS.sq (k := k1 + k2) (ts1 := [(4, fst)]) (ts2 := [(5, n)]) h1 h2 hP rfl ha hb ⟨by simpa using hu.1, hu.2.1⟩ hv (Nat.le_refl _) he hd (fun x hx => Or.inl hx) (fun x hx => absurd hx (by simp))) hk ⟨by omega, by simp; omega⟩ (fun τ ht hT => by
    simp at hT
    rw [does1, make_row τ n hn.b (by rw [ht 94 n (by omega) (by omega) hn.2.1 hn.2.2]; exact h94) (by omega), (ht 87 n (by omega) (by omega) hn.2.1 hn.2.2).trans h87])
theorem mk_change {fst o K a' b' c' : Int} (hN : 30000001 ≤ N) (hP : P ≤ 4) (hn : ND lo hi n) (h94 : (el τp 94 n = 28 ∧ K = 9 ∧ el τp 92 n = a' ∧ b' = 1 ∧ c' = 0) ∨ (el τp 94 n = 29 ∧ K = 9 ∧ a' = 1 ∧ el τp 92 n = b' ∧ c' = 0) ∨ (el τp 94 n = 30 ∧ K = 8 ∧ el τp 92 n = a' ∧ el τp 91 n = b' ∧ el τp 90 n = c') ∨ (el τp 94 n = 31 ∧ K = 21 ∧ a' = 500 ∧ el τp 92 n = b' ∧ c' = 0)) (h93 : el τp 93 n = place) (h87 : el τp 87 n = fst) (hv0 : IV K a' b' c' 0 [(o, 1, 1)]) (h1 : TKS N U ℓ τp vlo lo1 hi1 P Kn j seg1 u1 v1 k1 e1 δ1 [(1, fst)] [] [o] [] []) (ha : lo ≤ lo1 ∧ hi1 ≤ hi) (hu : u1 + 1 ≤ u ∧ 2 ≤ u) (hv : v1 ≤ v ∧ 1 ≤ v) (hk : k1 + 2 ≤ k) (he : e ≤ e1 + 1) (hd : δ1 ≤ δ ∧ 0 ≤ δ + e1) : TKS N U ℓ τp vlo lo hi P Kn j (seg1 ++ [(K, place, a', b', c', 0, 0, [(o, 1, 1)])]) u v k e δ [(1, n)] [] [P + (j + seg1.length)] [] [] := by
  have h2 : TKS N U ℓ τp vlo lo hi P Kn (j + seg1.length) [(K, place, a', b', c', 0, 0, [(o, 1, 1)])] 1 1 1 1 (δ + e1) [(6, n)] [o] [P + (j + seg1.length)] [] [] := tk_one hN (by rcases h94 with h | h | h | h <;> omega) hv0 (Int.le_refl _) (Int.le_refl _) (Nat.le_refl _) hd.2 (fun τ ht => by
    have t : ∀ a, 85 ≤ a → a ≤ 94 → el τ a n = el τp a n := fun a x y => ht a n x y hn.2.1 hn.2.2
    rw [does6, r_changeOf, grd_t hn.b, t 94 (by omega) (by omega), t 93 (by omega) (by omega), t 92 (by omega) (by omega), t 91 (by omega) (by omega), t 90 (by omega) (by omega), h93]
    rcases h94 with ⟨x1, x2, x3, x4, x5⟩ | ⟨x1, x2, x3, x4, x5⟩ | ⟨x1, x2, x3, x4, x5⟩ | ⟨x1, x2, x3, x4, x5⟩
    · rw [x1, grd_t (by decide), if_pos rfl, bsm, x2, x3, x4, x5]
    · rw [x1, grd_t (by decide), if_neg (by decide), if_pos rfl, bsm, x2, x3, x4, x5]
    · rw [x1, grd_t (by decide), if_neg (by decide), if_neg (by decide), if_pos rfl, bsm, x2, x3, x4, x5]
    · rw [x1, grd_t (by decide), if_neg (by decide), if_neg (by decide), if_neg (by decide), bsm, x2, x3, x4, x5])
  refine TKS.push (ts := [(1, fst), (6, n)]) hN (TKS.sq (k := k1 + 1) (ts1 := [(1, fst)]) (ts2 := [(6, n)]) h1 h2 hP rfl ha ⟨Int.le_refl _, Int.le_refl _⟩ ⟨by simpa using hu.1, by omega⟩ ⟨hv.1, by omega⟩ (Nat.le_refl _) he ⟨hd.1, by omega⟩ (fun x hx => Or.inl hx) (fun x hx => absurd hx (by simp))) (by omega) ⟨by omega, by simp; omega⟩ (fun τ ht hT => ?_)
  simp at hT
  rw [does1, make_change τ n hn.b (by rw [ht 94 n (by omega) (by omega) hn.2.1 hn.2.2]; omega) (by omega), (ht 87 n (by omega) (by omega) hn.2.1 hn.2.2).trans h87]
end AP
