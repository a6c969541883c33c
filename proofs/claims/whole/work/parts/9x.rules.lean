/-! rules of tasks -/
section RL
variable {N : Nat} {U : Gl → Int → Stq → Prop} {ℓ : Int} {τp : St} {vlo P : Int}
theorem NT.sub {τp : St} {g : Gl} {lo hi lo1 hi1 : Int} (h : NT τp g lo hi) (h1 : lo ≤ lo1) (h2 : hi1 ≤ hi) : NT τp g lo1 hi1 := fun a i x y z w => h a i x y (by omega) (by omega)
theorem SG.l {L : List Stq} {j : Int} {a b : List Stq} (h : SG L j (a ++ b)) : SG L j a := by
  obtain ⟨p, q, h1, h2⟩ := h
  exact ⟨p, b ++ q, by rw [h1, List.append_assoc], h2⟩
theorem SG.r {L : List Stq} {j : Int} {a b : List Stq} (h : SG L j (a ++ b)) : SG L (j + a.length) b := by
  obtain ⟨p, q, h1, h2⟩ := h
  exact ⟨p ++ a, q, by rw [h1]; simp only [List.append_assoc], by rw [List.length_append]; omega⟩
theorem TKS.mono {lo hi lo' hi' j u v e δ u' v' e' δ' : Int} {k k' : Nat} {Kn Kn1 : List Int} {seg : List Stq} {ts : List (Int × Int)} {ins outs : List Int} {avq avp avq' avp' : List (Int × Int)} {τq : St} (h : TKS N U ℓ τp vlo lo hi P Kn j seg u v k e δ ts ins outs avq avp) (hk : k ≤ k') (hl : lo' ≤ lo) (hh : hi ≤ hi') (ht : ∀ a i : Int, 85 ≤ a → a ≤ 94 → lo ≤ i → i < hi → el τq a i = el τp a i) (hK : Kn <+: Kn1) (hu : u ≤ u') (hv : v ≤ v') (he : e' ≤ e) (hd : δ ≤ δ') (hq : ∀ x ∈ avq, x ∈ avq') (hp : ∀ x ∈ avp', x ∈ avp) : TKS N U ℓ τq vlo lo' hi' P Kn1 j seg u' v' k' e' δ' ts ins outs avq' avp' := by
  intro g π σ τ t s D L Kn' o base T Q h1 h2 h3 h4 h5 h6 h7 h8 h9 h10 h11 h12 h13 h14 h15 h16 h17 hF
  refine h g π σ τ t s D L Kn' o base T Q (fun a i x y z w => (h1 a i x y (by omega) (by omega)).trans (ht a i x y z w)) h2 h3 h4 (hK.trans h5) h6 h7 h8 h9 h10 h11 h12 (fun x hx => h13 x (hq x hx)) ⟨h14.1, by omega⟩ ⟨h15.1, by omega⟩ (by omega) (by omega) (fun π' σ' τ' t' s' hO => hF π' σ' τ' t' s' ?_)
  obtain ⟨o1, o2, o3, o4, o5, o6, o7, o8, o9, o10⟩ := hO
  exact ⟨o1, (KP.rf ℓ (base + P + j) T Q vlo lo hi π σ τ).tr o2 (Int.le_refl _) (Int.le_refl _) (Int.le_refl _) ⟨hl, hh⟩ ⟨hl, hh⟩, o3, o4, o5, o6, fun x hx => o7 x (hp x hx), o8, by omega, by omega⟩
theorem TKS.nil {Kn : List Int} {j : Int} {ins : List Int} {avq : List (Int × Int)} {lo hi u v δ : Int} {k : Nat} : TKS N U ℓ τp vlo lo hi P Kn j [] u v k 0 δ [] ins ins avq avq := by
  intro g π σ τ t s D L Kn' o base T Q h1 h2 h3 h4 h5 h6 h7 h8 h9 h10 h11 h12 h13 h14 h15 h16 h17 hF
  exact hF π σ τ t s ⟨h7, KP.rf _ _ _ _ _ _ _ _ _ _, by rw [h8.1.2.2]; simp, by simpa using h9, h11, by simpa using h12, by simpa using h13, by simp, by omega, by omega⟩
theorem TKS.seq {lo hi lo1 hi1 lo2 hi2 j j2 u v e δ u1 v1 e1 δ1 u2 v2 e2 δ2 : Int} {k k1 k2 : Nat} {Kn : List Int} {seg1 seg2 : List Stq} {ts1 ts2 : List (Int × Int)} {ins mid outs : List Int} {avq av1 av2 : List (Int × Int)} (h1 : TKS N U ℓ τp vlo lo1 hi1 P Kn j seg1 u1 v1 k1 e1 δ1 ts1 ins mid avq av1) (h2 : TKS N U ℓ τp vlo lo2 hi2 P Kn j2 seg2 u2 v2 k2 e2 δ2 ts2 mid outs (avq ++ av1) av2) (hP : P ≤ 4) (hj : j2 = j + seg1.length) (ha : lo ≤ lo1 ∧ hi1 ≤ hi) (hb : lo ≤ lo2 ∧ hi2 ≤ hi) (hu : u1 + ts2.length ≤ u ∧ u2 ≤ u) (hv : v1 ≤ v ∧ v2 ≤ v) (hk : k1 + k2 ≤ k) (he : e ≤ e1 + e2) (hd : δ1 ≤ δ ∧ δ2 ≤ δ + e1) (hq : ∀ x ∈ avq, vlo ≤ x.1 ∧ ¬ (lo1 ≤ x.1 ∧ x.1 < hi1)) (h1' : ∀ x ∈ av1, vlo ≤ x.1 ∧ ¬ (lo2 ≤ x.1 ∧ x.1 < hi2)) : TKS N U ℓ τp vlo lo hi P Kn j (seg1 ++ seg2) u v k e δ (ts1 ++ ts2) ins outs avq (av1 ++ av2) := by
  intro g π σ τ t s D L Kn' o base T Q x1 x2 x3 x4 x5 x6 x7 x8 x9 x10 x11 x12 x13 x14 x15 x16 x17 hF
  obtain ⟨y1, y2⟩ := x10.app
  have lt : ((ts1 ++ ts2).length : Int) = ts1.length + ts2.length := by rw [List.length_append]; omega
  refine h1 g π σ τ t s D L Kn' o base (T + ts2.length) Q (x1.sub ha.1 ha.2) x2 x3 x4.l x5 x6 x7 x8 (by omega) y1 x11 x12 x13 ⟨by omega, by omega⟩ ⟨x15.1, by omega⟩ (by omega) (by omega) (fun π1 σ1 τ1 t1 s1 hO => ?_)
  obtain ⟨o1, o2, o3, o4, o5, o6, o7, o8, o9, o10⟩ := hO
  subst hj
  refine h2 g π1 σ1 τ1 t1 s1 D L Kn' o base T Q (x1.sub hb.1 hb.2) x2 x3 x4.r x5 x6 o1 (x8.kp o2 hP (Int.le_refl _) o3 (by omega) (by omega)) o4 (y2.cg (fun i hi => o2.2.2.2.2.2.1 i hi)) o5 o6 (fun x hx => ?_) ⟨x14.1, by omega⟩ ⟨x15.1, by omega⟩ (by omega) (by omega) (fun π2 σ2 τ2 t2 s2 hO2 => ?_)
  · rcases List.mem_append.mp hx with hx | hx
    · exact (AVs.kp x13 o2 (by omega) hq) x hx
    · exact o7 x hx
  · obtain ⟨p1, p2, p3, p4, p5, p6, p7, p8, p9, p10⟩ := hO2
    have ll : (((seg1 ++ seg2).length : Nat) : Int) = seg1.length + seg2.length := by rw [List.length_append]; omega
    have ej : j + (((seg1 ++ seg2).length : Nat) : Int) = j + seg1.length + seg2.length := by omega
    refine hF π2 σ2 τ2 t2 s2 ⟨p1, o2.tr p2 (by omega) (by omega) (Int.le_refl _) ha hb, by rw [ej]; exact p3, p4, p5, by rw [ej]; exact p6, fun x hx => ?_, by omega, by omega, by omega⟩
    rw [ej]
    rcases List.mem_append.mp hx with hx | hx
    · exact (AVs.kp o7 p2 (by omega) h1') x hx
    · exact p7 x hx
theorem TKS.frame {lo hi j u v v' e δ : Int} {k : Nat} {Kn : List Int} {seg : List Stq} {ts : List (Int × Int)} {ins outs : List Int} {avq avp : List (Int × Int)} (h : TKS N U ℓ τp vlo lo hi P Kn j seg u v k e δ ts ins outs avq avp) (x : List Int) (hv : v + x.length ≤ v') : TKS N U ℓ τp vlo lo hi P Kn j seg u v' k e δ ts (x ++ ins) (x ++ outs) avq avp := by
  intro g π σ τ t s D L Kn' o base T Q h1 h2 h3 h4 h5 h6 h7 h8 h9 h10 h11 h12 h13 h14 h15 h16 h17 hF
  have lx : ((x ++ ins).length : Int) = x.length + ins.length := by rw [List.length_append]; omega
  refine h g π σ τ t s D L Kn' o base T (Q + x.length) h1 h2 h3 h4 h5 h6 h7 h8 h9 h10 (by omega) h12.rt h13 h14 ⟨by omega, by omega⟩ h16 h17 (fun π' σ' τ' t' s' hO => hF π' σ' τ' t' s' ?_)
  obtain ⟨o1, o2, o3, o4, o5, o6, o7, o8, o9, o10⟩ := hO
  have lo' : ((x ++ outs).length : Int) = x.length + outs.length := by rw [List.length_append]; omega
  exact ⟨o1, o2.wk2 (by omega), o3, o4, by omega, At.app ((show PVs π σ τ base (base + P + j) Kn' Q x from h12.l).kp o2 (by omega) (Int.le_refl _)) o6, o7, o8, o9, o10⟩
end RL
