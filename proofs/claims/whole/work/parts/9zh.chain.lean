/-! chains of nodes -/
section CH
variable {N : Nat} {U : Gl → Int → Stq → Prop} {ℓ : Int} {τp : St} {vlo P lo hi j u v e δ lo1 hi1 lo2 hi2 u1 v1 e1 δ1 u2 v2 e2 δ2 : Int} {k k1 k2 : Nat} {Kn : List Int} {seg1 seg2 : List Stq} {ins outs : List Int} {avq : List (Int × Int)}
theorem kids_nil (hN : 30000001 ≤ N) (hu : 1 ≤ u) (hk : 1 ≤ k) : TKS N U ℓ τp vlo lo hi P Kn j [] u v k 0 δ [(4, -1)] ins ins avq avq :=
  TKS.push (ts := []) hN (TKS.nil (k := 0)) (by omega) ⟨hu, by simp; omega⟩ (fun τ _ _ => does4n τ)
theorem kids_cons {c m nx o : Int} (hN : 30000001 ≤ N) (hP : P ≤ 4) (hc : ND lo hi c) (h94 : i32 (el τp 94 c)) (hm : m = if el τp 94 c = 24 then el τp 87 c else c) (hx : el τp 85 c = nx) (h1 : TKS N U ℓ τp vlo lo1 hi1 P Kn j seg1 u1 v1 k1 e1 δ1 [(1, m)] [] [o] [] []) (h2 : TKS N U ℓ τp vlo lo2 hi2 P Kn (j + seg1.length) seg2 u2 v2 k2 e2 δ2 [(4, nx)] [] outs [] []) (ha : lo ≤ lo1 ∧ hi1 ≤ hi) (hb : lo ≤ lo2 ∧ hi2 ≤ hi) (hu : u1 + 1 ≤ u ∧ u2 ≤ u ∧ 2 ≤ u) (hv : v1 ≤ v ∧ v2 + 1 ≤ v) (hk : k1 + k2 + 1 ≤ k) (he : e ≤ e1 + e2) (hd : δ1 ≤ δ ∧ δ2 ≤ δ + e1) : TKS N U ℓ τp vlo lo hi P Kn j (seg1 ++ seg2) u v k e δ [(4, c)] [] (o :: outs) [] [] :=
  TKS.push (ts := [(1, m), (4, nx)]) hN (TKS.seq (k := k1 + k2) (ts1 := [(1, m)]) (ts2 := [(4, nx)]) (mid := [o]) (av2 := []) h1 (h2.frame (v' := v2 + 1) [o] (by simp)) hP rfl ha hb ⟨by simpa using hu.1, hu.2.1⟩ hv (Nat.le_refl _) he hd (fun x hx => absurd hx (by simp)) (fun x hx => absurd hx (by simp))) hk ⟨by omega, by simp; omega⟩ (fun τ ht hT => by
    rw [does4 τ c hc.b (by rw [ht 94 c (by omega) (by omega) hc.2.1 hc.2.2]; exact h94) (by simp at hT; omega) (by have := hc.1.1; omega), ht 94 c (by omega) (by omega) hc.2.1 hc.2.2, ht 87 c (by omega) (by omega) hc.2.1 hc.2.2, ht 85 c (by omega) (by omega) hc.2.1 hc.2.2, ← hm, hx])
theorem terms_nil (hN : 30000001 ≤ N) (hu : 1 ≤ u) (hk : 1 ≤ k) : TKS N U ℓ τp vlo lo hi P Kn j [] u v k 0 δ [(2, -1)] ins ins avq avq :=
  TKS.push (ts := []) hN (TKS.nil (k := 0)) (by omega) ⟨hu, by simp; omega⟩ (fun τ _ _ => by rw [does2, r_terms, grd_t (by decide), if_pos rfl]; rfl)
theorem terms_first {t m nx o : Int} (hN : 30000001 ≤ N) (hP : P ≤ 4) (hc : ND lo hi t) (h92 : el τp 92 t = 0) (hm : el τp 87 t = m) (hx : el τp 85 t = nx) (h1 : TKS N U ℓ τp vlo lo1 hi1 P Kn j seg1 u1 v1 k1 e1 δ1 [(1, m)] [] [o] [] []) (h2 : TKS N U ℓ τp vlo lo2 hi2 P Kn (j + seg1.length) seg2 u2 v2 k2 e2 δ2 [(2, nx)] [o] outs [] []) (ha : lo ≤ lo1 ∧ hi1 ≤ hi) (hb : lo ≤ lo2 ∧ hi2 ≤ hi) (hu : u1 + 1 ≤ u ∧ u2 ≤ u ∧ 2 ≤ u) (hv : v1 ≤ v ∧ v2 ≤ v) (hk : k1 + k2 + 1 ≤ k) (he : e ≤ e1 + e2) (hd : δ1 ≤ δ ∧ δ2 ≤ δ + e1) : TKS N U ℓ τp vlo lo hi P Kn j (seg1 ++ seg2) u v k e δ [(2, t)] [] outs [] [] :=
  TKS.push (ts := [(1, m), (2, nx)]) hN (TKS.seq (k := k1 + k2) (ts1 := [(1, m)]) (ts2 := [(2, nx)]) (mid := [o]) (av2 := []) h1 h2 hP rfl ha hb ⟨by simpa using hu.1, hu.2.1⟩ hv (Nat.le_refl _) he hd (fun x hx => absurd hx (by simp)) (fun x hx => absurd hx (by simp))) hk ⟨by omega, by simp; omega⟩ (fun τ ht hT => by
    have e92 := (ht 92 t (by omega) (by omega) hc.2.1 hc.2.2).trans h92
    have e87 := (ht 87 t (by omega) (by omega) hc.2.1 hc.2.2).trans hm
    have e85 := (ht 85 t (by omega) (by omega) hc.2.1 hc.2.2).trans hx
    have c1 := hc.1
    simp at hT
    have e1 : ∀ a j : Int, a ≠ 55 → a ≠ 56 → el (pT τ (2, nx)) a j = el τ a j := fun a j h1 h2 => pTs_el (τ := τ) [(2, nx)] a j (Or.inl ⟨h1, h2⟩)
    have e2 : fl (pT τ (2, nx)) 65 0 = fl τ 65 0 + 1 := pTs_65 (τ := τ) [(2, nx)]
    rw [does2, r_terms, grd_t (by exact ⟨by omega, by omega⟩), if_neg (by omega), grd_t hc.b, e85, r_task' (by omega), Option.bind_some, e1 92 _ (by decide) (by decide), e92, grd_t (by decide), if_pos rfl, r_terms_32, grd_t hc.b, bsm, e1 87 _ (by decide) (by decide), e87, r_task' (by omega)]
    rfl)
theorem terms_cons {t m nx s l o place : Int} (hN : 30000001 ≤ N) (hP : P ≤ 4) (hc : ND lo hi t) (h92 : el τp 92 t = s ∧ s ≠ 0 ∧ i32 s) (h93 : el τp 93 t = place) (hm : el τp 87 t = m) (hx : el τp 85 t = nx) (h1 : TKS N U ℓ τp vlo lo1 hi1 P Kn j seg1 u1 v1 k1 e1 δ1 [(1, m)] [] [o] [] []) (h2 : TKS N U ℓ τp vlo lo2 hi2 P Kn (j + seg1.length + 1) seg2 u2 v2 k2 e2 δ2 [(2, nx)] [P + (j + seg1.length)] outs [] []) (ha : lo ≤ lo1 ∧ hi1 ≤ hi) (hb : lo ≤ lo2 ∧ hi2 ≤ hi) (hu : u1 + 2 ≤ u ∧ u2 ≤ u ∧ 3 ≤ u) (hv : v1 + 1 ≤ v ∧ v2 ≤ v ∧ 2 ≤ v) (hk : k1 + k2 + 2 ≤ k) (he : e ≤ e1 + e2) (hd : δ1 ≤ δ ∧ δ2 ≤ δ + e1 ∧ 0 ≤ δ + e1) : TKS N U ℓ τp vlo lo hi P Kn j (seg1 ++ ([(25, place, s, 0, 0, 0, 0, [(l, 1, 1), (o, 1, 1)])] ++ seg2)) u v k e δ [(2, t)] [l] outs [] [] := by
  have jn : TKS N U ℓ τp vlo lo hi P Kn (j + seg1.length) [(25, place, s, 0, 0, 0, 0, [(l, 1, 1), (o, 1, 1)])] 1 2 1 0 (δ + e1) [(3, t)] [l, o] [P + (j + seg1.length)] ([] ++ []) [] := tk_two hN (by decide) (by unfold IV; simp; exact h92.2.2) (Int.le_refl _) (Int.le_refl _) (Nat.le_refl _) hd.2.2 (fun τ ht => by
    rw [does3 _ _ hc.b, ht 92 t (by omega) (by omega) hc.2.1 hc.2.2, ht 93 t (by omega) (by omega) hc.2.1 hc.2.2, h92.1, h93])
  have h2' : TKS N U ℓ τp vlo lo2 hi2 P Kn (j + seg1.length + 1) seg2 u2 v2 k2 e2 δ2 [(2, nx)] [P + (j + seg1.length)] outs (([] ++ []) ++ []) [] := h2
  have s2 := TKS.seq (lo := lo) (hi := hi) (u := u - 0) (v := v) (k := 1 + k2) (e := 0 + e2) (δ := δ + e1) jn h2' hP (by simp) ⟨Int.le_refl _, Int.le_refl _⟩ hb ⟨by simp; omega, by omega⟩ ⟨by omega, by omega⟩ (Nat.le_refl _) (Int.le_refl _) ⟨by omega, by omega⟩ (fun x hx => absurd hx (by simp)) (fun x hx => absurd hx (by simp))
  have h1' := h1.frame (v' := v1 + 1) [l] (by simp)
  have s1 := TKS.seq (lo := lo) (hi := hi) (u := u) (v := v) (k := k1 + (1 + k2)) (e := e) (δ := δ) (j2 := j + seg1.length) h1' s2 hP rfl ha ⟨Int.le_refl _, Int.le_refl _⟩ ⟨by simp; omega, by omega⟩ ⟨by omega, by omega⟩ (Nat.le_refl _) (by omega) ⟨by omega, by omega⟩ (fun x hx => absurd hx (by simp)) (fun x hx => absurd hx (by simp))
  refine TKS.push (ts := [(1, m), (3, t), (2, nx)]) hN s1 (by omega) ⟨by omega, by simp; omega⟩ (fun τ ht hT => ?_)
  have e92 := (ht 92 t (by omega) (by omega) hc.2.1 hc.2.2).trans h92.1
  have e87 := (ht 87 t (by omega) (by omega) hc.2.1 hc.2.2).trans hm
  have e85 := (ht 85 t (by omega) (by omega) hc.2.1 hc.2.2).trans hx
  have c1 := hc.1
  simp at hT
  have e1 : ∀ a j : Int, a ≠ 55 → a ≠ 56 → el (pT τ (2, nx)) a j = el τ a j := fun a j h1 h2 => pTs_el (τ := τ) [(2, nx)] a j (Or.inl ⟨h1, h2⟩)
  have e2 : fl (pT τ (2, nx)) 65 0 = fl τ 65 0 + 1 := pTs_65 (τ := τ) [(2, nx)]
  have e3 : ∀ a j : Int, a ≠ 55 → a ≠ 56 → el (pT (pT τ (2, nx)) (3, t)) a j = el τ a j := fun a j h1 h2 => pTs_el (τ := τ) [(3, t), (2, nx)] a j (Or.inl ⟨h1, h2⟩)
  have e4 : fl (pT (pT τ (2, nx)) (3, t)) 65 0 = fl τ 65 0 + 2 := pTs_65 (τ := τ) [(3, t), (2, nx)]
  rw [does2, r_terms, grd_t (by exact ⟨by omega, by omega⟩), if_neg (by omega), grd_t hc.b, e85, r_task' (by omega), Option.bind_some, e1 92 _ (by decide) (by decide), e92, grd_t h92.2.2, if_neg h92.2.1, r_task' (by omega), Option.bind_some, r_terms_32, grd_t hc.b, bsm, e3 87 _ (by decide) (by decide), e87, r_task' (by omega)]
  rfl
theorem fk_nil (hN : 30000001 ≤ N) (hu : 1 ≤ u) (hk : 1 ≤ k) : TKS N U ℓ τp vlo lo hi P Kn j [] u v k 0 δ [(10, -1)] ins ins avq avq :=
  TKS.push (ts := []) hN (TKS.nil (k := 0)) (by omega) ⟨hu, by simp; omega⟩ (fun τ _ _ => does10n τ)
theorem ak_nil (hN : 30000001 ≤ N) (hu : 1 ≤ u) (hk : 1 ≤ k) : TKS N U ℓ τp vlo lo hi P Kn j [] u v k 0 δ [(9, -1)] ins ins avq avq :=
  TKS.push (ts := []) hN (TKS.nil (k := 0)) (by omega) ⟨hu, by simp; omega⟩ (fun τ _ _ => does9n τ)
/-- a pattern among what a function wants -/
theorem fk_pat {c nx o : Int} {av2 : List (Int × Int)} (hN : 30000001 ≤ N) (hP : P ≤ 4) (hc : ND lo hi c) (h94 : (0 ≤ el τp 94 c ∧ el τp 94 c < 100) ∧ ¬ (9 ≤ el τp 94 c ∧ el τp 94 c ≤ 13)) (hx : el τp 85 c = nx) (h1 : TKS N U ℓ τp vlo lo1 hi1 P Kn j seg1 u1 v1 k1 e1 δ1 [(1, c)] [] [o] [] []) (h2 : TKS N U ℓ τp vlo lo2 hi2 P Kn (j + seg1.length) seg2 u2 v2 k2 e2 δ2 [(10, nx)] [] outs [] av2) (ha : lo ≤ lo1 ∧ hi1 ≤ hi) (hb : lo ≤ lo2 ∧ hi2 ≤ hi) (hu : u1 + 1 ≤ u ∧ u2 ≤ u ∧ 3 ≤ u) (hv : v1 ≤ v ∧ v2 + 1 ≤ v) (hk : k1 + k2 + 1 ≤ k) (he : e ≤ e1 + e2) (hd : δ1 ≤ δ ∧ δ2 ≤ δ + e1) : TKS N U ℓ τp vlo lo hi P Kn j (seg1 ++ seg2) u v k e δ [(10, c)] [] (o :: outs) [] av2 :=
  TKS.push (ts := [(1, c), (10, nx)]) hN (TKS.seq (k := k1 + k2) (ts1 := [(1, c)]) (ts2 := [(10, nx)]) (mid := [o]) (av1 := []) h1 (h2.frame (v' := v2 + 1) [o] (by simp)) hP rfl ha hb ⟨by simpa using hu.1, hu.2.1⟩ hv (Nat.le_refl _) he hd (fun x hx => absurd hx (by simp)) (fun x hx => absurd hx (by simp))) hk ⟨by omega, by simp; omega⟩ (fun τ ht hT => by
    have e94 := ht 94 c (by omega) (by omega) hc.2.1 hc.2.2
    simp at hT
    rw [does10 τ c hc.b (by rw [e94]; exact h94.1) (by omega) (by have := hc.1.1; omega), e94, if_neg h94.2, ht 85 c (by omega) (by omega) hc.2.1 hc.2.2, hx])
/-- a FUN among what a function wants -/
theorem fk_fun {c nx : Int} {av1 av2 : List (Int × Int)} (hN : 30000001 ≤ N) (hP : P ≤ 4) (hc : ND lo hi c) (h94 : (0 ≤ el τp 94 c ∧ el τp 94 c < 100) ∧ (9 ≤ el τp 94 c ∧ el τp 94 c ≤ 13)) (hx : el τp 85 c = nx) (h1 : TKS N U ℓ τp vlo lo1 hi1 P Kn j seg1 u1 v1 k1 e1 δ1 [(7, c)] [] [] [] av1) (h2 : TKS N U ℓ τp vlo lo2 hi2 P Kn (j + seg1.length) seg2 u2 v2 k2 e2 δ2 [(10, nx)] [] outs [] av2) (ha : lo ≤ lo1 ∧ hi1 ≤ hi) (hb : lo ≤ lo2 ∧ hi2 ≤ hi) (hu : u1 + 1 ≤ u ∧ u2 ≤ u ∧ 3 ≤ u) (hv : v1 ≤ v ∧ v2 ≤ v) (hk : k1 + k2 + 1 ≤ k) (he : e ≤ e1 + e2) (hd : δ1 ≤ δ ∧ δ2 ≤ δ + e1) (ha1 : ∀ x ∈ av1, vlo ≤ x.1 ∧ ¬ (lo2 ≤ x.1 ∧ x.1 < hi2)) : TKS N U ℓ τp vlo lo hi P Kn j (seg1 ++ seg2) u v k e δ [(10, c)] [] outs [] (av1 ++ av2) :=
  TKS.push (ts := [(7, c), (10, nx)]) hN (TKS.seq (k := k1 + k2) (ts1 := [(7, c)]) (ts2 := [(10, nx)]) (mid := []) h1 (h2.mono (avq' := [] ++ av1) (avp' := av2) (Nat.le_refl _) (Int.le_refl _) (Int.le_refl _) (fun _ _ _ _ _ _ => rfl) (List.prefix_refl _) (Int.le_refl _) (Int.le_refl _) (Int.le_refl _) (Int.le_refl _) (fun x hx => absurd hx (by simp)) (fun x hx => hx)) hP rfl ha hb ⟨by simpa using hu.1, hu.2.1⟩ hv (Nat.le_refl _) he hd (fun x hx => absurd hx (by simp)) ha1) hk ⟨by omega, by simp; omega⟩ (fun τ ht hT => by
    have e94 := ht 94 c (by omega) (by omega) hc.2.1 hc.2.2
    simp at hT
    rw [does10 τ c hc.b (by rw [e94]; exact h94.1) (by omega) (by have := hc.1.1; omega), e94, if_pos h94.2, ht 85 c (by omega) (by omega) hc.2.1 hc.2.2, hx])
theorem ak_fun {c nx : Int} {av1 av2 : List (Int × Int)} (hN : 30000001 ≤ N) (hP : P ≤ 4) (hc : ND lo hi c) (h94 : (0 ≤ el τp 94 c ∧ el τp 94 c < 100) ∧ (9 ≤ el τp 94 c ∧ el τp 94 c ≤ 13)) (hx : el τp 85 c = nx) (h1 : TKS N U ℓ τp vlo lo1 hi1 P Kn j seg1 u1 v1 k1 e1 δ1 [(7, c)] [] [] [] av1) (h2 : TKS N U ℓ τp vlo lo2 hi2 P Kn (j + seg1.length) seg2 u2 v2 k2 e2 δ2 [(9, nx)] [] outs [] av2) (ha : lo ≤ lo1 ∧ hi1 ≤ hi) (hb : lo ≤ lo2 ∧ hi2 ≤ hi) (hu : u1 + 1 ≤ u ∧ u2 ≤ u ∧ 3 ≤ u) (hv : v1 ≤ v ∧ v2 ≤ v) (hk : k1 + k2 + 1 ≤ k) (he : e ≤ e1 + e2) (hd : δ1 ≤ δ ∧ δ2 ≤ δ + e1) (ha1 : ∀ x ∈ av1, vlo ≤ x.1 ∧ ¬ (lo2 ≤ x.1 ∧ x.1 < hi2)) : TKS N U ℓ τp vlo lo hi P Kn j (seg1 ++ seg2) u v k e δ [(9, c)] [] outs [] (av1 ++ av2) :=
  TKS.push (ts := [(7, c), (9, nx)]) hN (TKS.seq (k := k1 + k2) (ts1 := [(7, c)]) (ts2 := [(9, nx)]) (mid := []) h1 (h2.mono (avq' := [] ++ av1) (avp' := av2) (Nat.le_refl _) (Int.le_refl _) (Int.le_refl _) (fun _ _ _ _ _ _ => rfl) (List.prefix_refl _) (Int.le_refl _) (Int.le_refl _) (Int.le_refl _) (Int.le_refl _) (fun x hx => absurd hx (by simp)) (fun x hx => hx)) hP rfl ha hb ⟨by simpa using hu.1, hu.2.1⟩ hv (Nat.le_refl _) he hd (fun x hx => absurd hx (by simp)) ha1) hk ⟨by omega, by simp; omega⟩ (fun τ ht hT => by
    have e94 := ht 94 c (by omega) (by omega) hc.2.1 hc.2.2
    simp at hT
    rw [does9 τ c hc.b (by rw [e94]; exact h94.1) ⟨by omega, by omega, fun h => absurd h94.2 (by rw [e94] at h; exact h)⟩ (by have := hc.1.1; omega), e94, if_pos h94.2, ht 85 c (by omega) (by omega) hc.2.1 hc.2.2, hx])
/-- a pattern that a FUN wants: it is made, and kept -/
theorem ak_pat {c nx o : Int} {av2 : List (Int × Int)} (hN : 30000001 ≤ N) (hP : P ≤ 4) (hc : ND lo hi c) (hvc : vlo ≤ c) (h94 : (0 ≤ el τp 94 c ∧ el τp 94 c < 100) ∧ ¬ (9 ≤ el τp 94 c ∧ el τp 94 c ≤ 13)) (hx : el τp 85 c = nx) (h1 : TKS N U ℓ τp vlo lo1 hi1 P Kn j seg1 u1 v1 k1 e1 δ1 [(1, c)] [] [o] [] []) (h2 : TKS N U ℓ τp vlo lo2 hi2 P Kn (j + seg1.length) seg2 u2 v2 k2 e2 δ2 [(9, nx)] [] outs [] av2) (ha : lo ≤ lo1 ∧ hi1 ≤ hi) (hb : lo ≤ lo2 ∧ hi2 ≤ hi) (hu : u1 + 2 ≤ u ∧ u2 ≤ u ∧ 4 ≤ u) (hv : v1 ≤ v ∧ v2 ≤ v ∧ 1 ≤ v) (hk : k1 + k2 + 2 ≤ k) (he : e ≤ e1 + e2) (hd : δ1 ≤ δ ∧ δ2 ≤ δ + e1) (hc2 : ¬ (lo2 ≤ c ∧ c < hi2)) : TKS N U ℓ τp vlo lo hi P Kn j (seg1 ++ seg2) u v k e δ [(9, c)] [] outs [] ((c, o) :: av2) := by
  have st : TKS N U ℓ τp vlo lo hi P Kn (j + seg1.length) [] 1 1 1 0 (δ + e1) [(8, c)] [o] [] ([] ++ []) [(c, o)] := tk_store hN hc (Int.le_refl _) (Int.le_refl _) (Nat.le_refl _)
  have h2' := h2.mono (avq' := ([] ++ []) ++ [(c, o)]) (avp' := av2) (Nat.le_refl _) (Int.le_refl _) (Int.le_refl _) (fun _ _ _ _ _ _ => rfl) (List.prefix_refl _) (Int.le_refl _) (Int.le_refl _) (Int.le_refl _) (Int.le_refl _) (fun x hx => absurd hx (by simp)) (fun x hx => hx)
  have s2 := TKS.seq (lo := lo) (hi := hi) (u := u) (v := v) (k := 1 + k2) (e := 0 + e2) (δ := δ + e1) st h2' hP (by simp) ⟨Int.le_refl _, Int.le_refl _⟩ hb ⟨by simp; omega, by omega⟩ ⟨by omega, by omega⟩ (Nat.le_refl _) (Int.le_refl _) ⟨by omega, by omega⟩ (fun x hx => absurd hx (by simp)) (fun x hx => by simp at hx; subst hx; exact ⟨hvc, hc2⟩)
  have s1 := TKS.seq (lo := lo) (hi := hi) (u := u) (v := v) (k := k1 + (1 + k2)) (e := e) (δ := δ) (j2 := j + seg1.length) h1 s2 hP rfl ha ⟨Int.le_refl _, Int.le_refl _⟩ ⟨by simp; omega, by omega⟩ ⟨by omega, by omega⟩ (Nat.le_refl _) (by omega) ⟨by omega, by omega⟩ (fun x hx => absurd hx (by simp)) (fun x hx => absurd hx (by simp))
  refine TKS.push (ts := [(1, c), (8, c), (9, nx)]) hN s1 (by omega) ⟨by omega, by simp; omega⟩ (fun τ ht hT => ?_)
  have e94 := ht 94 c (by omega) (by omega) hc.2.1 hc.2.2
  simp at hT
  rw [does9 τ c hc.b (by rw [e94]; exact h94.1) ⟨by omega, by omega, fun _ => by omega⟩ (by have := hc.1.1; omega), e94, if_neg h94.2, ht 85 c (by omega) (by omega) hc.2.1 hc.2.2, hx]
/-- what a FUN wants -/
theorem tk_args {f x : Int} {av : List (Int × Int)} (hN : 30000001 ≤ N) (hf : ND lo hi f) (h94 : i32 (el τp 94 f) ∧ el τp 94 f ≠ 9) (h87 : el τp 87 f = x) (h : TKS N U ℓ τp vlo lo hi P Kn j seg1 u v k1 e δ [(9, x)] [] [] [] av) (hu : 1 ≤ u) (hk : k1 + 1 ≤ k) : TKS N U ℓ τp vlo lo hi P Kn j seg1 u v k e δ [(7, f)] [] [] [] av :=
  TKS.push (ts := [(9, x)]) hN h hk ⟨hu, by simp; omega⟩ (fun τ ht hT => by
    have e94 := ht 94 f (by omega) (by omega) hf.2.1 hf.2.2
    simp at hT
    rw [does7, r_arguments, grd_t hf.b, e94, grd_t h94.1, if_neg h94.2, bsm, ht 87 f (by omega) (by omega) hf.2.1 hf.2.2, h87, r_task' (by omega)]
    rfl)
theorem tk_args_rev {f : Int} (hN : 30000001 ≤ N) (hf : ND lo hi f) (h94 : el τp 94 f = 9) (hu : 1 ≤ u) (hk : 1 ≤ k) : TKS N U ℓ τp vlo lo hi P Kn j [] u v k 0 δ [(7, f)] ins ins avq avq :=
  TKS.push (ts := []) hN (TKS.nil (k := 0)) (by omega) ⟨hu, by simp; omega⟩ (fun τ ht hT => by
    rw [does7, r_arguments, grd_t hf.b, ht 94 f (by omega) (by omega) hf.2.1 hf.2.2, h94, grd_t (by decide), if_pos rfl]; rfl)
end CH
