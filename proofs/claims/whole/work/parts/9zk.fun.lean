/-! functions with and without a FUN -/
section FW
variable {N : Nat} {U : Gl → Int → Stq → Prop} {ℓ : Int} {τp : St} {vlo P : Int}
theorem TKS.sq {lo hi lo1 hi1 lo2 hi2 j j2 u v e δ u1 v1 e1 δ1 u2 v2 e2 δ2 : Int} {k k1 k2 : Nat} {Kn : List Int} {seg1 seg2 : List Stq} {ts1 ts2 : List (Int × Int)} {ins mid outs : List Int} {avq av1 avq2 av2 avp : List (Int × Int)} (h1 : TKS N U ℓ τp vlo lo1 hi1 P Kn j seg1 u1 v1 k1 e1 δ1 ts1 ins mid avq av1) (h2 : TKS N U ℓ τp vlo lo2 hi2 P Kn j2 seg2 u2 v2 k2 e2 δ2 ts2 mid outs avq2 av2) (hP : P ≤ 4) (hj : j2 = j + seg1.length) (ha : lo ≤ lo1 ∧ hi1 ≤ hi) (hb : lo ≤ lo2 ∧ hi2 ≤ hi) (hu : u1 + ts2.length ≤ u ∧ u2 ≤ u) (hv : v1 ≤ v ∧ v2 ≤ v) (hk : k1 + k2 ≤ k) (he : e ≤ e1 + e2) (hd : δ1 ≤ δ ∧ δ2 ≤ δ + e1) (hq : ∀ x ∈ avq2, x ∈ av1 ∨ (x ∈ avq ∧ vlo ≤ x.1 ∧ ¬ (lo1 ≤ x.1 ∧ x.1 < hi1))) (hp : ∀ x ∈ avp, x ∈ av2 ∨ (x ∈ av1 ∧ vlo ≤ x.1 ∧ ¬ (lo2 ≤ x.1 ∧ x.1 < hi2))) : TKS N U ℓ τp vlo lo hi P Kn j (seg1 ++ seg2) u v k e δ (ts1 ++ ts2) ins outs avq avp := by
  intro g π σ τ t s D L Kn' o base T Q x1 x2 x3 x4 x5 x6 x7 x8 x9 x10 x11 x12 x13 x14 x15 x16 x17 hF
  obtain ⟨y1, y2⟩ := x10.app
  have lt : ((ts1 ++ ts2).length : Int) = ts1.length + ts2.length := by rw [List.length_append]; omega
  refine h1 g π σ τ t s D L Kn' o base (T + ts2.length) Q (x1.sub ha.1 ha.2) x2 x3 x4.l x5 x6 x7 x8 (by omega) y1 x11 x12 x13 ⟨by omega, by omega⟩ ⟨x15.1, by omega⟩ (by omega) (by omega) (fun π1 σ1 τ1 t1 s1 hO => ?_)
  obtain ⟨o1, o2, o3, o4, o5, o6, o7, o8, o9, o10⟩ := hO
  subst hj
  refine h2 g π1 σ1 τ1 t1 s1 D L Kn' o base T Q (x1.sub hb.1 hb.2) x2 x3 x4.r x5 x6 o1 (x8.kp o2 hP (Int.le_refl _) o3 (by omega) (by omega)) o4 (y2.cg (fun i hi => o2.2.2.2.2.2.1 i hi)) o5 o6 (fun x hx => ?_) ⟨x14.1, by omega⟩ ⟨x15.1, by omega⟩ (by omega) (by omega) (fun π2 σ2 τ2 t2 s2 hO2 => ?_)
  · rcases hq x hx with hx | ⟨hx, hy, hz⟩
    · exact o7 x hx
    · exact (AVs.kp (l := [x]) (fun y hy => by rw [List.mem_singleton.mp hy]; exact x13 x hx) o2 (by omega) (fun y hy' => by rw [List.mem_singleton.mp hy']; exact ⟨hy, hz⟩)) x (by simp)
  · obtain ⟨p1, p2, p3, p4, p5, p6, p7, p8, p9, p10⟩ := hO2
    have ll : (((seg1 ++ seg2).length : Nat) : Int) = seg1.length + seg2.length := by rw [List.length_append]; omega
    have ej : j + (((seg1 ++ seg2).length : Nat) : Int) = j + seg1.length + seg2.length := by omega
    refine hF π2 σ2 τ2 t2 s2 ⟨p1, o2.tr p2 (by omega) (by omega) (Int.le_refl _) ha hb, by rw [ej]; exact p3, p4, p5, by rw [ej]; exact p6, fun x hx => ?_, by omega, by omega, by omega⟩
    rw [ej]
    rcases hp x hx with hx | ⟨hx, hy, hz⟩
    · exact p7 x hx
    · exact (AVs.kp (l := [x]) (fun y hy => by rw [List.mem_singleton.mp hy]; exact o7 x hx) p2 (by omega) (fun y hy' => by rw [List.mem_singleton.mp hy']; exact ⟨hy, hz⟩)) x (by simp)
theorem TKS.pushu {lo hi j u v e δ : Int} {k k' : Nat} {Kn : List Int} {seg : List Stq} {w n : Int} {ts : List (Int × Int)} {ins outs : List Int} {avq avp : List (Int × Int)} (hN : 30000001 ≤ N) (h : TKS N U ℓ τp vlo lo hi P Kn j seg u v k e δ ts ins outs avq avp) (hk : k + 1 ≤ k') (hu : 1 ≤ u)
    (H : ∀ τ : St, (∀ a i : Int, 85 ≤ a → a ≤ 94 → lo ≤ i → i < hi → el τ a i = el τp a i) → (0 ≤ fl τ 65 0 ∧ fl τ 65 0 + u ≤ 20000) → r_does N τ w n = some (pTs τ ts)) : TKS N U ℓ τp vlo lo hi P Kn j seg u v k' e δ [(w, n)] ins outs avq avp :=
  TKS.step hN h hk hu (fun g π σ τ Kn' base T Q ht hK hF => by
    obtain ⟨f1, f2, f3, f4, f5, f6, f7, f8, f9, f10⟩ := hF
    have rf := pTs_rf (τ := τ) ts Q vlo lo hi
    have kk := RF.kp (ℓ := ℓ) (rb := base + P + j) (π := π) (σ := σ) rf
    refine ⟨pTs τ ts, H τ ht ⟨by omega, by omega⟩, by rw [f1] at rf; exact rf, by rw [pTs_65, f1], by have := pTs_sk (τ := τ) ts; rwa [f1] at this, by rw [pTs_fl _ _ _ (by decide), f2], At.mono (fun i o _ _ _ ho => by rw [pTs_el _ _ _ (Or.inl ⟨by decide, by decide⟩)]; exact ho.kp kk (Int.le_refl _)) f3, fun x hx => by rw [pTs_el _ _ _ (Or.inl ⟨by decide, by decide⟩)]; exact (f4 x hx).kp kk (Int.le_refl _)⟩)
/-- nothing is wanted and left of values -/
theorem TKS.w0 {lo hi j u v e δ : Int} {k : Nat} {Kn : List Int} {seg : List Stq} {ts : List (Int × Int)} {ins outs : List Int} {avq avp : List (Int × Int)} (h : TKS N U ℓ τp vlo lo hi P Kn j seg u v k e δ ts ins outs avq avp) : TKS N U ℓ τp vlo lo hi P Kn j seg u v k e δ ts ins outs avq [] := h.mono (Nat.le_refl _) (Int.le_refl _) (Int.le_refl _) (fun _ _ _ _ _ _ => rfl) (List.prefix_refl _) (Int.le_refl _) (Int.le_refl _) (Int.le_refl _) (Int.le_refl _) (fun _ hx => hx) (fun _ hx => absurd hx (by simp))
variable {lo hi j u v e δ lo1 hi1 u1 v1 e1 δ1 : Int} {k k1 : Nat} {Kn : List Int} {seg : List Stq} {av : List (Int × Int)} {w n place f a b c d oi oF F : Int}
theorem tk_fone (hN : 30000001 ≤ N) (hn : ND lo hi n) (hF : FN τp n place f a b c d) (hf : isOne f) (hv : IV (fK f a b c d).1 (fK f a b c d).2.1 (fK f a b c d).2.2.1 (fK f a b c d).2.2.2.1 (fK f a b c d).2.2.2.2 [(oi, 1, 1)]) (hu : 1 ≤ u) (hv' : 1 ≤ v) (hk : 1 ≤ k) (hd : 0 ≤ δ) (H : ∀ τ : St, (∀ a i : Int, 85 ≤ a → a ≤ 94 → lo ≤ i → i < hi → el τ a i = el τp a i) → r_does N τ w n = r_function N τ n) : TKS N U ℓ τp vlo lo hi P Kn j [((fK f a b c d).1, place, (fK f a b c d).2.1, (fK f a b c d).2.2.1, (fK f a b c d).2.2.2.1, (fK f a b c d).2.2.2.2, 0, [(oi, 1, 1)])] u v k 1 δ [(w, n)] [oi] [P + j] av [] :=
  tk_one hN (by rcases hf with h | h | h | h | h | h | h | h | h | h | h <;> subst h <;> simp [fK]) hv hu hv' hk hd (fun τ ht => by
    rw [H τ ht, fun_plain hn.b (hF.cg ht hn) (Or.inl hf), ofF_one hn.b (hF.cg ht hn) hf])
/-- a FUN is applied above p, and both are made one -/
theorem tk_fun2 (hN : 30000001 ≤ N) (hP : P ≤ 4) (hn : ND lo hi n) (hF : FN τp n place f a b c d) (h87 : el τp 87 n = F) (hf : f = 5 ∨ f = 6 ∨ f = 11 ∨ f = 19) (hv : IV (fK f a b c d).1 (fK f a b c d).2.1 (fK f a b c d).2.2.1 (fK f a b c d).2.2.2.1 (fK f a b c d).2.2.2.2 [(oi, 1, 1), (oF, 1, 1)]) (hA : TKS N U ℓ τp vlo lo1 hi1 P Kn j seg u1 v1 k1 e1 δ1 [(11, F)] [oi] [oF] av []) (ha : lo ≤ lo1 ∧ hi1 ≤ hi) (hu : u1 + 1 ≤ u ∧ 6 ≤ u) (hv' : v1 + 1 ≤ v ∧ 2 ≤ v) (hk : k1 + 3 ≤ k) (he : e ≤ e1) (hd : δ1 ≤ δ ∧ 0 ≤ δ ∧ 0 ≤ δ + e1) (H : ∀ τ : St, (∀ a i : Int, 85 ≤ a → a ≤ 94 → lo ≤ i → i < hi → el τ a i = el τp a i) → r_does N τ w n = r_function N τ n) : TKS N U ℓ τp vlo lo hi P Kn j (seg ++ [((fK f a b c d).1, place, (fK f a b c d).2.1, (fK f a b c d).2.2.1, (fK f a b c d).2.2.2.1, (fK f a b c d).2.2.2.2, 0, [(oi, 1, 1), (oF, 1, 1)])]) u v k e δ [(w, n)] [oi] [P + (j + seg.length)] av [] := by
  have d1 : TKS N U ℓ τp vlo n n P Kn j [] 1 2 1 0 δ [(13, n)] [oi] [oi, oi] av av := tk_dup hN (Int.le_refl _) (Int.le_refl _) (Nat.le_refl _)
  have d2 := hA.frame (v' := v1 + 1) [oi] (by simp)
  have d3 : TKS N U ℓ τp vlo lo hi P Kn (j + seg.length) [((fK f a b c d).1, place, (fK f a b c d).2.1, (fK f a b c d).2.2.1, (fK f a b c d).2.2.2.1, (fK f a b c d).2.2.2.2, 0, [(oi, 1, 1), (oF, 1, 1)])] 1 2 1 0 (δ + e1) [(15, n)] [oi, oF] [P + (j + seg.length)] [] [] := tk_two hN (by rcases hf with h | h | h | h <;> subst h <;> simp [fK]) hv (Int.le_refl _) (Int.le_refl _) (Nat.le_refl _) hd.2.2 (fun τ ht => by
    rw [does15, ofF_two hn.b (hF.cg ht hn) (by unfold isTwo; omega)])
  have s2 := TKS.sq (lo := lo) (hi := hi) (u := u) (v := v) (k := k1 + 1) (e := e) (δ := δ) (avp := []) d2 d3 hP rfl ha ⟨Int.le_refl _, Int.le_refl _⟩ ⟨by simp; omega, by omega⟩ ⟨by omega, by omega⟩ (Nat.le_refl _) (by omega) ⟨by omega, by omega⟩ (fun x hx => absurd hx (by simp)) (fun x hx => absurd hx (by simp))
  have s1 := TKS.sq (lo := lo) (hi := hi) (u := u) (v := v) (k := 1 + (k1 + 1)) (e := e) (δ := δ) (avp := []) d1 s2 hP (by simp) ⟨hn.2.1, by have := hn.2; omega⟩ ⟨Int.le_refl _, Int.le_refl _⟩ ⟨by simp; omega, by omega⟩ ⟨by omega, by omega⟩ (Nat.le_refl _) (by omega) ⟨by omega, by omega⟩ (fun x hx => Or.inl hx) (fun x hx => absurd hx (by simp))
  have fe : fts f n F = [(13, n), (11, F), (15, n)] := by rcases hf with h | h | h | h <;> subst h <;> simp [fts]
  refine TKS.pushu (ts := fts f n F) hN (by rw [fe]; exact s1) (by omega) (by omega) (fun τ ht hT => ?_)
  rw [H τ ht]
  exact fun_fun hn.b ((hF.cg ht hn).2.1) ((ht 87 n (by omega) (by omega) hn.2.1 hn.2.2).trans h87) (by unfold isFn; omega) (by omega)
theorem iv5 (x y : Int) : IV 5 0 0 0 0 [(x, 1, 1), (y, 1, 1)] := by unfold IV wgt; simp
theorem tk_and (hN : 30000001 ≤ N) (hn : ND lo hi n) (h93 : el τp 93 n = place) (hd : 0 ≤ δ) : TKS N U ℓ τp vlo lo hi P Kn j [(5, place, 0, 0, 0, 0, 0, [(oi, 1, 1), (oF, 1, 1)])] 1 2 1 0 δ [(17, n)] [oi, oF] [P + j] [] [] := tk_two hN (by decide) (iv5 _ _) (Int.le_refl _) (Int.le_refl _) (Nat.le_refl _) hd (fun τ ht => by rw [does17 _ _ hn.b, ht 93 n (by omega) (by omega) hn.2.1 hn.2.2, h93])
/-- over -/
theorem tk_over (hN : 30000001 ≤ N) (hP : P ≤ 4) (hn : ND lo hi n) (hF : FN τp n place 8 a b c d) (h87 : el τp 87 n = F) (hA : TKS N U ℓ τp vlo lo1 hi1 P Kn j seg u1 v1 k1 e1 δ1 [(11, F)] [oi] [oF] av []) (ha : lo ≤ lo1 ∧ hi1 ≤ hi) (hu : u1 + 1 ≤ u ∧ 6 ≤ u) (hv' : v1 + 1 ≤ v ∧ 2 ≤ v) (hk : k1 + 3 ≤ k) (he : e ≤ e1) (hd : δ1 ≤ δ ∧ 0 ≤ δ ∧ 0 ≤ δ + e1) (H : ∀ τ : St, (∀ a i : Int, 85 ≤ a → a ≤ 94 → lo ≤ i → i < hi → el τ a i = el τp a i) → r_does N τ w n = r_function N τ n) : TKS N U ℓ τp vlo lo hi P Kn j (seg ++ [(5, place, 0, 0, 0, 0, 0, [(oi, 1, 1), (oF, 1, 1)])]) u v k e δ [(w, n)] [oi] [P + (j + seg.length)] av [] := by
  have d1 : TKS N U ℓ τp vlo n n P Kn j [] 1 2 1 0 δ [(13, n)] [oi] [oi, oi] av av := tk_dup hN (Int.le_refl _) (Int.le_refl _) (Nat.le_refl _)
  have d2 := hA.frame (v' := v1 + 1) [oi] (by simp)
  have d3 := tk_and (U := U) (ℓ := ℓ) (vlo := vlo) (P := P) (Kn := Kn) (j := j + seg.length) (oi := oi) (oF := oF) hN hn hF.1 hd.2.2
  have s2 := TKS.sq (lo := lo) (hi := hi) (u := u) (v := v) (k := k1 + 1) (e := e) (δ := δ) (avp := []) d2 d3 hP rfl ha ⟨Int.le_refl _, Int.le_refl _⟩ ⟨by simp; omega, by omega⟩ ⟨by omega, by omega⟩ (Nat.le_refl _) (by omega) ⟨by omega, by omega⟩ (fun x hx => absurd hx (by simp)) (fun x hx => absurd hx (by simp))
  have s1 := TKS.sq (lo := lo) (hi := hi) (u := u) (v := v) (k := 1 + (k1 + 1)) (e := e) (δ := δ) (avp := []) d1 s2 hP (by simp) ⟨hn.2.1, by have := hn.2; omega⟩ ⟨Int.le_refl _, Int.le_refl _⟩ ⟨by simp; omega, by omega⟩ ⟨by omega, by omega⟩ (Nat.le_refl _) (by omega) ⟨by omega, by omega⟩ (fun x hx => Or.inl hx) (fun x hx => absurd hx (by simp))
  refine TKS.pushu (ts := fts 8 n F) hN (show TKS N U ℓ τp vlo lo hi P Kn j _ u v _ e δ (fts 8 n F) [oi] _ av [] from s1) (by omega) (by omega) (fun τ ht hT => ?_)
  rw [H τ ht]
  exact fun_fun hn.b ((hF.cg ht hn).2.1) ((ht 87 n (by omega) (by omega) hn.2.1 hn.2.2).trans h87) (by unfold isFn; omega) (by omega)
/-- off -/
theorem tk_off (hN : 30000001 ≤ N) (hP : P ≤ 4) (hn : ND lo hi n) (hF : FN τp n place 7 a b c d) (h87 : el τp 87 n = F) (hv : IV 11 a b 0 0 [(oF, 1, 1)]) (hA : TKS N U ℓ τp vlo lo1 hi1 P Kn j seg u1 v1 k1 e1 δ1 [(11, F)] [oi] [oF] av []) (ha : lo ≤ lo1 ∧ hi1 ≤ hi) (hu : u1 + 2 ≤ u ∧ 6 ≤ u) (hv' : v1 + 1 ≤ v ∧ 2 ≤ v) (hk : k1 + 4 ≤ k) (he : e ≤ e1 + 1) (hd : δ1 ≤ δ ∧ 0 ≤ δ ∧ 0 ≤ δ + e1) (H : ∀ τ : St, (∀ a i : Int, 85 ≤ a → a ≤ 94 → lo ≤ i → i < hi → el τ a i = el τp a i) → r_does N τ w n = r_function N τ n) : TKS N U ℓ τp vlo lo hi P Kn j (seg ++ ([(11, place, a, b, 0, 0, 0, [(oF, 1, 1)])] ++ [(5, place, 0, 0, 0, 0, 0, [(oi, 1, 1), (P + (j + seg.length), 1, 1)])])) u v k e δ [(w, n)] [oi] [P + (j + seg.length + 1)] av [] := by
  have d1 : TKS N U ℓ τp vlo n n P Kn j [] 1 2 1 0 δ [(13, n)] [oi] [oi, oi] av av := tk_dup hN (Int.le_refl _) (Int.le_refl _) (Nat.le_refl _)
  have d2 := hA.frame (v' := v1 + 1) [oi] (by simp)
  have d3 : TKS N U ℓ τp vlo lo hi P Kn (j + seg.length) [(11, place, a, b, 0, 0, 0, [(oF, 1, 1)])] 1 1 1 1 (δ + e1) [(16, n)] [oF] [P + (j + seg.length)] [] [] := tk_one hN (by decide) hv (Int.le_refl _) (Int.le_refl _) (Nat.le_refl _) hd.2.2 (fun τ ht => by
    have q := hF.cg ht hn
    rw [does16 _ _ hn.b, q.1, q.2.2.1, q.2.2.2.1])
  have d3' := d3.frame (v' := 2) [oi] (by simp)
  have d4 := tk_and (U := U) (ℓ := ℓ) (vlo := vlo) (P := P) (Kn := Kn) (j := j + seg.length + 1) (oi := oi) (oF := P + (j + seg.length)) (δ := δ + e1 + 1) hN hn hF.1 (by omega)
  have s3 := TKS.sq (lo := lo) (hi := hi) (u := u - 1) (v := v) (k := 1 + 1) (e := 1) (δ := δ + e1) (avp := []) d3' d4 hP (by simp) ⟨Int.le_refl _, Int.le_refl _⟩ ⟨Int.le_refl _, Int.le_refl _⟩ ⟨by simp; omega, by omega⟩ ⟨by omega, by omega⟩ (Nat.le_refl _) (by omega) ⟨by omega, by omega⟩ (fun x hx => absurd hx (by simp)) (fun x hx => absurd hx (by simp))
  have s2 := TKS.sq (lo := lo) (hi := hi) (u := u) (v := v) (k := k1 + (1 + 1)) (e := e) (δ := δ) (avp := []) d2 s3 hP rfl ha ⟨Int.le_refl _, Int.le_refl _⟩ ⟨by simp; omega, by omega⟩ ⟨by omega, by omega⟩ (Nat.le_refl _) (by omega) ⟨by omega, by omega⟩ (fun x hx => absurd hx (by simp)) (fun x hx => absurd hx (by simp))
  have s1 := TKS.sq (lo := lo) (hi := hi) (u := u) (v := v) (k := 1 + (k1 + (1 + 1))) (e := e) (δ := δ) (avp := []) d1 s2 hP (by simp) ⟨hn.2.1, by have := hn.2; omega⟩ ⟨Int.le_refl _, Int.le_refl _⟩ ⟨by simp; omega, by omega⟩ ⟨by omega, by omega⟩ (Nat.le_refl _) (by omega) ⟨by omega, by omega⟩ (fun x hx => Or.inl hx) (fun x hx => absurd hx (by simp))
  refine TKS.pushu (ts := fts 7 n F) hN (show TKS N U ℓ τp vlo lo hi P Kn j _ u v _ e δ (fts 7 n F) [oi] _ av [] from s1) (by omega) (by omega) (fun τ ht hT => ?_)
  rw [H τ ht]
  exact fun_fun hn.b ((hF.cg ht hn).2.1) ((ht 87 n (by omega) (by omega) hn.2.1 hn.2.2).trans h87) (by unfold isFn; omega) (by omega)
/-- inside: hA is the FUN applied to what was slowed -/
theorem tk_inside (hN : 30000001 ≤ N) (hP : P ≤ 4) (hn : ND lo hi n) (hF : FN τp n place 12 a b c d) (h87 : el τp 87 n = F) (hab : 1 ≤ a ∧ a ≤ 64) (hA : TKS N U ℓ τp vlo lo1 hi1 P Kn (j + 1) seg u1 v1 k1 e1 δ1 [(11, F)] [P + j] [oF] av []) (ha : lo ≤ lo1 ∧ hi1 ≤ hi) (hu : u1 + 1 ≤ u ∧ 6 ≤ u) (hv' : v1 ≤ v ∧ 1 ≤ v) (hk : k1 + 3 ≤ k) (he : e ≤ e1 + 2) (hd : δ1 ≤ δ + 1 ∧ 0 ≤ δ ∧ 0 ≤ δ + e1) (hav : ∀ x ∈ av, vlo ≤ x.1 ∧ x.1 ≠ n) (H : ∀ τ : St, (∀ a i : Int, 85 ≤ a → a ≤ 94 → lo ≤ i → i < hi → el τ a i = el τp a i) → r_does N τ w n = r_function N τ n) : TKS N U ℓ τp vlo lo hi P Kn j ([(9, place, 1, a, 0, 0, 0, [(oi, 1, 1)])] ++ (seg ++ [(9, place, a, 1, 0, 0, 0, [(oF, 1, 1)])])) u v k e δ [(w, n)] [oi] [P + (j + 1 + seg.length)] av [] := by
  have hn1 : ND n (n + 1) n := ⟨hn.1, by omega, by omega⟩
  have d1 : TKS N U ℓ τp vlo n (n + 1) P Kn j [(9, place, 1, a, 0, 0, 0, [(oi, 1, 1)])] 1 1 1 1 δ [(20, n)] [oi] [P + j] av [] := tk_one hN (by decide) (by unfold IV; simp; omega) (Int.le_refl _) (Int.le_refl _) (Nat.le_refl _) hd.2.1 (fun τ ht => by
    have q := hF.cg ht hn1
    rw [does20 _ _ hn.b, q.1, q.2.2.1])
  have d3 : TKS N U ℓ τp vlo lo hi P Kn (j + 1 + seg.length) [(9, place, a, 1, 0, 0, 0, [(oF, 1, 1)])] 1 1 1 1 (δ + e1 + 1) [(21, n)] [oF] [P + (j + 1 + seg.length)] [] [] := tk_one hN (by decide) (by unfold IV; simp; omega) (Int.le_refl _) (Int.le_refl _) (Nat.le_refl _) (by omega) (fun τ ht => by
    have q := hF.cg ht hn
    rw [does21 _ _ hn.b, q.1, q.2.2.1])
  have s2 := TKS.sq (lo := lo) (hi := hi) (u := u) (v := v) (k := k1 + 1) (e := e1 + 1) (δ := δ + 1) (avp := []) hA d3 hP rfl ha ⟨Int.le_refl _, Int.le_refl _⟩ ⟨by simp; omega, by omega⟩ ⟨by omega, by omega⟩ (Nat.le_refl _) (by omega) ⟨by omega, by omega⟩ (fun x hx => absurd hx (by simp)) (fun x hx => absurd hx (by simp))
  have s1 := TKS.sq (lo := lo) (hi := hi) (u := u) (v := v) (k := 1 + (k1 + 1)) (e := e) (δ := δ) (avp := []) d1 s2 hP (by simp) ⟨hn.2.1, by have := hn.2; omega⟩ ⟨Int.le_refl _, Int.le_refl _⟩ ⟨by simp; omega, by omega⟩ ⟨by omega, by omega⟩ (Nat.le_refl _) (by omega) ⟨by omega, by omega⟩ (fun x hx => Or.inr ⟨hx, (hav x hx).1, by have := (hav x hx).2; omega⟩) (fun x hx => absurd hx (by simp))
  refine TKS.pushu (ts := fts 12 n F) hN (show TKS N U ℓ τp vlo lo hi P Kn j _ u v _ e δ (fts 12 n F) [oi] _ av [] from s1) (by omega) (by omega) (fun τ ht hT => ?_)
  rw [H τ ht]
  exact fun_fun hn.b ((hF.cg ht hn).2.1) ((ht 87 n (by omega) (by omega) hn.2.1 hn.2.2).trans h87) (by unfold isFn; omega) (by omega)
/-- some -/
theorem tk_some (hN : 30000001 ≤ N) (hP : P ≤ 4) (hn : ND lo hi n) (hF : FN τp n place 18 a b c d) (h87 : el τp 87 n = F) (hab : 0 ≤ a ∧ a ≤ 1000) (hA : TKS N U ℓ τp vlo lo1 hi1 P Kn (j + 2) seg u1 v1 k1 e1 δ1 [(11, F)] [P + (j + 1)] [oF] av []) (ha : lo ≤ lo1 ∧ hi1 ≤ hi) (hu : u1 + 1 ≤ u ∧ 6 ≤ u) (hv' : v1 + 1 ≤ v ∧ 2 ≤ v) (hk : k1 + 6 ≤ k) (he : e ≤ e1 + 2) (hd : δ1 ≤ δ + 2 ∧ 0 ≤ δ ∧ 0 ≤ δ + e1) (hav : ∀ x ∈ av, vlo ≤ x.1 ∧ x.1 ≠ n) (H : ∀ τ : St, (∀ a i : Int, 85 ≤ a → a ≤ 94 → lo ≤ i → i < hi → el τ a i = el τp a i) → r_does N τ w n = r_function N τ n) : TKS N U ℓ τp vlo lo hi P Kn j ([(21, place, a, 0, 0, 0, 0, [(oi, 1, 1)])] ++ ([(22, place, a, 0, 0, 0, 0, [(oi, 1, 1)])] ++ (seg ++ [(5, place, 0, 0, 0, 0, 0, [(P + j, 1, 1), (oF, 1, 1)])]))) u v k e δ [(w, n)] [oi] [P + (j + 2 + seg.length)] av [] := by
  have hn1 : ND n (n + 1) n := ⟨hn.1, by omega, by omega⟩
  have nv : ∀ x ∈ av, vlo ≤ x.1 ∧ ¬ (n ≤ x.1 ∧ x.1 < n + 1) := fun x hx => ⟨(hav x hx).1, by have := (hav x hx).2; omega⟩
  have d1 : TKS N U ℓ τp vlo n n P Kn j [] 1 2 1 0 δ [(13, n)] [oi] [oi, oi] av av := tk_dup hN (Int.le_refl _) (Int.le_refl _) (Nat.le_refl _)
  have d2 : TKS N U ℓ τp vlo n (n + 1) P Kn j [(21, place, a, 0, 0, 0, 0, [(oi, 1, 1)])] 1 1 1 1 δ [(18, n)] [oi] [P + j] av [] := tk_one hN (by decide) (by unfold IV; simp; omega) (Int.le_refl _) (Int.le_refl _) (Nat.le_refl _) hd.2.1 (fun τ ht => by
    have q := hF.cg ht hn1
    rw [does18 _ _ hn.b, q.1, q.2.2.1])
  have d2' := d2.frame (v' := 2) [oi] (by simp)
  have d3 : TKS N U ℓ τp vlo n n P Kn (j + 1) [] 1 2 1 0 (δ + 1) [(14, n)] [oi, P + j] [P + j, oi] av av := tk_swap hN (Int.le_refl _) (Int.le_refl _) (Nat.le_refl _)
  have d4 : TKS N U ℓ τp vlo n (n + 1) P Kn (j + 1) [(22, place, a, 0, 0, 0, 0, [(oi, 1, 1)])] 1 1 1 1 (δ + 1) [(19, n)] [oi] [P + (j + 1)] av [] := tk_one hN (by decide) (by unfold IV; simp; omega) (Int.le_refl _) (Int.le_refl _) (Nat.le_refl _) (by omega) (fun τ ht => by
    have q := hF.cg ht hn1
    rw [does19 _ _ hn.b, q.1, q.2.2.1])
  have d4' := d4.frame (v' := 2) [P + j] (by simp)
  have d5 := hA.frame (v' := v1 + 1) [P + j] (by simp)
  have d6 := tk_and (U := U) (ℓ := ℓ) (vlo := vlo) (P := P) (Kn := Kn) (j := j + 2 + seg.length) (oi := P + j) (oF := oF) (δ := δ + 2 + e1) hN hn hF.1 (by omega)
  have s5 := TKS.sq (lo := lo) (hi := hi) (u := u) (v := v) (k := k1 + 1) (e := e1) (δ := δ + 2) (avp := []) d5 d6 hP rfl ha ⟨Int.le_refl _, Int.le_refl _⟩ ⟨by simp; omega, by omega⟩ ⟨by omega, by omega⟩ (Nat.le_refl _) (by omega) ⟨by omega, by omega⟩ (fun x hx => absurd hx (by simp)) (fun x hx => absurd hx (by simp))
  have s4 := TKS.sq (lo := lo) (hi := hi) (u := u) (v := v) (k := 1 + (k1 + 1)) (e := e1 + 1) (δ := δ + 1) (avp := []) d4' s5 hP (by simp; omega) ⟨hn.2.1, by have := hn.2; omega⟩ ⟨Int.le_refl _, Int.le_refl _⟩ ⟨by simp; omega, by omega⟩ ⟨by omega, by omega⟩ (Nat.le_refl _) (by omega) ⟨by omega, by omega⟩ (fun x hx => Or.inr ⟨hx, nv x hx⟩) (fun x hx => absurd hx (by simp))
  have s3 := TKS.sq (lo := lo) (hi := hi) (u := u) (v := v) (k := 1 + (1 + (k1 + 1))) (e := e1 + 1) (δ := δ + 1) (avp := []) d3 s4 hP (by simp) ⟨hn.2.1, by have := hn.2; omega⟩ ⟨Int.le_refl _, Int.le_refl _⟩ ⟨by simp; omega, by omega⟩ ⟨by omega, by omega⟩ (Nat.le_refl _) (by omega) ⟨by omega, by omega⟩ (fun x hx => Or.inl hx) (fun x hx => absurd hx (by simp))
  have s2 := TKS.sq (lo := lo) (hi := hi) (u := u) (v := v) (k := 1 + (1 + (1 + (k1 + 1)))) (e := e) (δ := δ) (avp := []) d2' s3 hP (by simp) ⟨hn.2.1, by have := hn.2; omega⟩ ⟨Int.le_refl _, Int.le_refl _⟩ ⟨by simp; omega, by omega⟩ ⟨by omega, by omega⟩ (Nat.le_refl _) (by omega) ⟨by omega, by omega⟩ (fun x hx => Or.inr ⟨hx, nv x hx⟩) (fun x hx => absurd hx (by simp))
  have s1 := TKS.sq (lo := lo) (hi := hi) (u := u) (v := v) (k := 1 + (1 + (1 + (1 + (k1 + 1))))) (e := e) (δ := δ) (avp := []) d1 s2 hP (by simp) ⟨hn.2.1, by have := hn.2; omega⟩ ⟨Int.le_refl _, Int.le_refl _⟩ ⟨by simp; omega, by omega⟩ ⟨by omega, by omega⟩ (Nat.le_refl _) (by omega) ⟨by omega, by omega⟩ (fun x hx => Or.inl hx) (fun x hx => absurd hx (by simp))
  refine TKS.pushu (ts := fts 18 n F) hN (show TKS N U ℓ τp vlo lo hi P Kn j _ u v _ e δ (fts 18 n F) [oi] _ av [] from s1) (by omega) (by omega) (fun τ ht hT => ?_)
  rw [H τ ht]
  exact fun_fun hn.b ((hF.cg ht hn).2.1) ((ht 87 n (by omega) (by omega) hn.2.1 hn.2.2).trans h87) (by unfold isFn; omega) (by omega)
end FW
