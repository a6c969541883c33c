/-! a task that only shifts tasks, the pile and values -/
def RF (T Q vlo lo hi : Int) (τ τ' : St) : Prop := (∀ (f : Nat) (i : Int), f ≠ 65 → f ≠ 68 → fl τ' f i = fl τ f i) ∧ (∀ a j : Int, a ≠ 54 → a ≠ 55 → a ≠ 56 → a ≠ 84 → el τ' a j = el τ a j) ∧ (∀ i, i < T → el τ' 55 i = el τ 55 i ∧ el τ' 56 i = el τ 56 i) ∧ (∀ i, i < Q → el τ' 54 i = el τ 54 i) ∧ ∀ i, vlo ≤ i → ¬ (lo ≤ i ∧ i < hi) → el τ' 84 i = el τ 84 i
theorem TX.eq {τ τ' : St} (h1 : fl τ' 48 0 = fl τ 48 0) (h2 : fl τ' 61 0 = fl τ 61 0) (h3 : ∀ a j : Int, 57 ≤ a → a ≤ 70 → el τ' a j = el τ a j) : TX τ τ' := ⟨by omega, by omega, fun a j x y _ => h3 a j (by omega) y, fun a j x _ => h3 a j (by omega) (by omega)⟩
theorem RF.tr {T Q vlo lo hi : Int} {τ τ1 τ2 : St} (h : RF T Q vlo lo hi τ τ1) (k : RF T Q vlo lo hi τ1 τ2) : RF T Q vlo lo hi τ τ2 := ⟨fun f i a b => (k.1 f i a b).trans (h.1 f i a b), fun a j x y z w => (k.2.1 a j x y z w).trans (h.2.1 a j x y z w), fun i hi => ⟨(k.2.2.1 i hi).1.trans (h.2.2.1 i hi).1, (k.2.2.1 i hi).2.trans (h.2.2.1 i hi).2⟩, fun i hi => (k.2.2.2.1 i hi).trans (h.2.2.2.1 i hi), fun i a b => (k.2.2.2.2 i a b).trans (h.2.2.2.2 i a b)⟩
theorem RF.kp {T Q vlo lo hi ℓ rb : Int} {π : Sh} {σ τ τ' : St} (h : RF T Q vlo lo hi τ τ') : KP ℓ rb T Q vlo lo hi π σ τ π σ τ' := ⟨HX.rf _ _, TX.eq (h.1 48 0 (by decide) (by decide)) (h.1 61 0 (by decide) (by decide)) (fun a j x y => h.2.1 a j (by omega) (by omega) (by omega) (by omega)), fun _ _ => ⟨rfl, rfl⟩, fun _ _ => rfl, fun _ _ => rfl, h.2.2.1, h.2.2.2.1, fun i _ => h.2.1 53 i (by decide) (by decide) (by decide) (by decide), fun _ => ⟨h.1 71 0 (by decide) (by decide), rfl⟩, h.2.2.2.2⟩
theorem RF.js {T Q vlo lo hi ℓ : Int} {g : Gl} {π : Sh} {σ τ τ' : St} {t s s' : Nat} (h : RF T Q vlo lo hi τ τ') (k : JS g π σ τ t s ℓ) : JS g π σ τ' t s' ℓ := by
  obtain ⟨k1, ⟨k2, k3, k4⟩, k5, k6, k7, k8, k9, k10, k11, k12, k13, k14⟩ := k
  have e := h.1
  unfold JS
  rw [e 70 0 (by decide) (by decide), e 64 0 (by decide) (by decide), e 11 0 (by decide) (by decide), e 71 0 (by decide) (by decide), e 61 0 (by decide) (by decide), e 48 0 (by decide) (by decide)]
  exact ⟨k1, ⟨fun f i a1 a2 a3 a4 a5 a6 a7 a8 a9 a10 => (e f i a6 a7).trans (k2 f i a1 a2 a3 a4 a5 a6 a7 a8 a9 a10), fun a j a1 a2 => (h.2.1 a j (by omega) (by omega) (by omega) a2).trans (k3 a j a1 a2), k4.tr (h.kp (ℓ := 0) (rb := 0) (π := π) (σ := σ)).2.1⟩, k5, k6, k7, k8, k9, k10, k11, k12, k13, k14⟩
section SP
variable {N : Nat} {U : Gl → Int → Stq → Prop} {ℓ : Int} {τp : St} {vlo P : Int}
theorem fin_does {g : Gl} {π : Sh} {σ τ τ' : St} {t s : Nat} {T w n : Int} (hN : 30000001 ≤ N) (hs : s ≤ 30000000) (h65 : fl τ 65 0 = T + 1) (hT : 0 ≤ T ∧ T < 20000) (h11 : fl τ 11 0 = 0) (h56 : el τ 56 T = w ∧ el τ 55 T = n) (hd : r_does N (sf τ 65 0 T) w n = some τ') (h : FIN N g π σ τ' t (s + 1)) : FIN N g π σ τ t s := by
  obtain ⟨π', σ', τ2, r, p, h1, h2, h3⟩ := h
  refine ⟨π', σ', τ2, r, p, h1, ?_, h3⟩
  rw [show N - s = (N - (s + 1)) + 1 by omega, r_makes_21, h65, grd_t (by exact ⟨by omega, by omega⟩), if_pos (by omega), h11, grd_t (by exact ⟨by omega, by omega⟩), if_pos rfl, show T + 1 - 1 = T by omega, grd_t (by exact ⟨by omega, by omega⟩), bnd, h56.1, h56.2, hd, Option.bind_some, h2]
/-- what a task may use of the states -/
def TF (g : Gl) (ℓ P base j T Q u v : Int) (Kn : List Int) (ins : List Int) (avq : List (Int × Int)) (π : Sh) (σ τ : St) : Prop := fl τ 65 0 = T ∧ fl τ 68 0 = Q + ins.length ∧ PVs π σ τ base (base + P + j) Kn Q ins ∧ AVs π σ τ base (base + P + j) Kn avq ∧ (0 ≤ T ∧ T + u ≤ 20000) ∧ (0 ≤ Q ∧ Q + v ≤ 20000) ∧ fl τ 11 0 = 0 ∧ (fl τ 70 0 = ℓ ∧ 0 ≤ ℓ ∧ ℓ ≤ 12 ∧ 0 ≤ fl τ 64 0 ∧ fl τ 64 0 ≤ 200) ∧ (0 ≤ P ∧ P ≤ 4) ∧ ∀ i, 0 ≤ i → i < P → OVa π σ τ base (base + P + j) Kn i (el τ 53 (4 * ℓ + i))
theorem TKS.step {lo hi j u v e δ : Int} {k k' : Nat} {Kn : List Int} {seg : List Stq} {w n : Int} {ts : List (Int × Int)} {ins ins' outs : List Int} {avq avq' avp : List (Int × Int)} (hN : 30000001 ≤ N) (h : TKS N U ℓ τp vlo lo hi P Kn j seg u v k e δ ts ins' outs avq' avp) (hk : k + 1 ≤ k') (hu : 1 ≤ u)
    (H : ∀ (g : Gl) (π : Sh) (σ τ : St) (Kn' : List Int) (base T Q : Int), (∀ a i : Int, 85 ≤ a → a ≤ 94 → lo ≤ i → i < hi → el τ a i = el τp a i) → Kn <+: Kn' → TF g ℓ P base j T Q u v Kn' ins avq π σ τ → ∃ τ', r_does N τ w n = some τ' ∧ RF T Q vlo lo hi τ τ' ∧ fl τ' 65 0 = T + ts.length ∧ SK τ' T ts ∧ fl τ' 68 0 = Q + ins'.length ∧ PVs π σ τ' base (base + P + j) Kn' Q ins' ∧ AVs π σ τ' base (base + P + j) Kn' avq') : TKS N U ℓ τp vlo lo hi P Kn j seg u v k' e δ [(w, n)] ins outs avq avp := by
  intro g π σ τ t s D L Kn' o base T Q h1 h2 h3 h4 h5 h6 h7 h8 h9 h10 h11 h12 h13 h14 h15 h16 h17 hF
  have e1 : fl τ 65 0 = T + 1 := by rw [h9]; rfl
  obtain ⟨k1, k2, k5, k6, k7, k8, k9⟩ := id h7
  have hP := h2.2.2.1
  have q56 : el τ 56 T = w ∧ el τ 55 T = n := by simpa using h10.1
  have kk : KP ℓ (base + P + j) T Q vlo lo hi π σ τ π σ (sf τ 65 0 T) := (show RF T Q vlo lo hi τ (sf τ 65 0 T) from ⟨fun f i a _ => fl_sfn _ _ _ _ a, fun _ _ _ _ _ _ => rfl, fun _ _ => ⟨rfl, rfl⟩, fun _ _ => rfl, fun _ _ _ => rfl⟩).kp
  have sg : ∀ f i, f ≠ 65 → fl (sf τ 65 0 T) f i = fl τ f i := fun f i hf => fl_sfn _ _ _ _ hf
  have s65 : fl (sf τ 65 0 T) 65 0 = T := fl_sfs _ _ _ _
  obtain ⟨τ', d1, d2, d3, d4, d5, d6, d7⟩ := H g π σ (sf τ 65 0 T) Kn' base T Q (fun a i x y z q => (k2.2.1 a i (by omega) (by omega)).trans (h1 a i x y z q)) h5 ⟨s65, (sg 68 0 (by decide)).trans h11, At.mono (fun i o _ _ _ ho => ho.kp kk (Int.le_refl _)) h12, fun x hx => (h13 x hx).kp kk (Int.le_refl _), ⟨h14.1, h14.2⟩, h15, (sg 11 0 (by decide)).trans k8.2, ⟨(sg 70 0 (by decide)).trans k6.2.1, k6.2.2.1, k6.2.2.2, by rw [sg 64 0 (by decide)]; exact k7.2⟩, hP, fun i i0 i1 => Or.inr ⟨⟨i0, by omega⟩, by have := h8.2.1; omega, (h8.2.2.2.2 i i0 i1).1, (h8.2.2.2.2 i i0 i1).2.grow (HX.rf _ _) kk.2.1⟩⟩
  have hc64 : fl τ' 64 0 = fl τ 64 0 := by rw [d2.1 64 0 (by decide) (by decide), sg 64 0 (by decide)]
  have hc61 : fl τ' 61 0 = fl τ 61 0 := by rw [d2.1 61 0 (by decide) (by decide), sg 61 0 (by decide)]
  have hC := k7
  refine fin_does hN (by omega) e1 ⟨h14.1, by omega⟩ k8.2 q56 d1 ?_
  have kd : KP ℓ (base + P + j) T Q vlo lo hi π σ τ π σ τ' := kk.tr (d2.kp (rb := base + P + j)) (Int.le_refl _) (Int.le_refl _) (Int.le_refl _) ⟨Int.le_refl _, Int.le_refl _⟩ ⟨Int.le_refl _, Int.le_refl _⟩
  refine h g π σ τ' t (s + 1) D L Kn' o base T Q h1 h2 h3 h4 h5 h6 (d2.js (s := s) ((show RF T Q vlo lo hi τ (sf τ 65 0 T) from ⟨fun f i a _ => fl_sfn _ _ _ _ a, fun _ _ _ _ _ _ => rfl, fun _ _ => ⟨rfl, rfl⟩, fun _ _ => rfl, fun _ _ _ => rfl⟩).js h7)) (h8.kp kd hP.2 (Int.le_refl _) h8.1.2.2 (Int.le_refl _) (by omega)) d3 d4 d5 d6 d7 h14 h15 (by rw [hc64]; omega) (by rw [hc64, hc61]; omega) (fun π' σ' τ2 t' s' hO => hF π' σ' τ2 t' s' ?_)
  obtain ⟨o1, o2, o3, o4, o5, o6, o7, o8, o9, o10⟩ := hO
  rw [hc64] at o8 o9 o10
  rw [hc61] at o9
  exact ⟨o1, kd.tr o2 (Int.le_refl _) (Int.le_refl _) (Int.le_refl _) ⟨Int.le_refl _, Int.le_refl _⟩ ⟨Int.le_refl _, Int.le_refl _⟩, o3, o4, o5, o6, o7, o8, o9, by omega⟩
/-- pushing tasks -/
def pT (τ : St) (x : Int × Int) : St := sf (se (se τ 56 (fl τ 65 0) x.1) 55 (fl τ 65 0) x.2) 65 0 (fl τ 65 0 + 1)
def pTs (τ : St) : List (Int × Int) → St
  | [] => τ
  | x :: ts => pT (pTs τ ts) x
theorem r_task' {τ : St} {a b : Int} (h : 0 ≤ fl τ 65 0 ∧ fl τ 65 0 < 20000) : r_task N τ a b = some (pT τ (a, b)) := by
  rw [r_task, grd_t (by exact ⟨h.1, h.2⟩)]; rfl
theorem pTs_65 {τ : St} : ∀ (ts : List (Int × Int)), fl (pTs τ ts) 65 0 = fl τ 65 0 + ts.length
  | [] => by simp [pTs]
  | x :: ts => by
    have := pTs_65 (τ := τ) ts
    show fl (pT (pTs τ ts) x) 65 0 = _
    rw [pT, fl_sfs, this, List.length_cons]; omega
theorem pTs_fl {τ : St} : ∀ (ts : List (Int × Int)) (f : Nat) (i : Int), f ≠ 65 → fl (pTs τ ts) f i = fl τ f i
  | [], _, _, _ => rfl
  | x :: ts, f, i, h => by
    show fl (pT (pTs τ ts) x) f i = _
    rw [pT, fl_sfn _ _ _ _ h]; exact pTs_fl ts f i h
theorem pTs_el {τ : St} : ∀ (ts : List (Int × Int)) (a j : Int), (a ≠ 55 ∧ a ≠ 56) ∨ j < fl τ 65 0 → el (pTs τ ts) a j = el τ a j
  | [], _, _, _ => rfl
  | x :: ts, a, j, h => by
    show el (pT (pTs τ ts) x) a j = _
    have := pTs_65 (τ := τ) ts
    rw [pT, el_sf, el_se, if_neg (by omega), el_se, if_neg (by omega)]; exact pTs_el ts a j h
theorem pTs_sk {τ : St} : ∀ (ts : List (Int × Int)), SK (pTs τ ts) (fl τ 65 0) ts
  | [] => trivial
  | x :: ts => by
    have h := pTs_65 (τ := τ) ts
    refine ⟨?_, SK.cg (τ := pTs τ ts) (fun i hi => ?_) (pTs_sk ts)⟩
    · show el (pT (pTs τ ts) x) 56 _ = _ ∧ el (pT (pTs τ ts) x) 55 _ = _
      rw [pT, el_sf, el_sf, ← h, el_ses, el_sen _ _ _ _ (by decide), el_ses]
      exact ⟨rfl, rfl⟩
    · show el (pT (pTs τ ts) x) 55 _ = _ ∧ el (pT (pTs τ ts) x) 56 _ = _
      rw [pT, el_sf, el_sf, el_se, if_neg (by omega), el_se, if_neg (by omega), el_se, if_neg (by omega), el_se, if_neg (by omega)]
      exact ⟨rfl, rfl⟩
theorem pTs_rf {τ : St} (ts : List (Int × Int)) (Q vlo lo hi : Int) : RF (fl τ 65 0) Q vlo lo hi τ (pTs τ ts) := ⟨fun f i a _ => pTs_fl ts f i a, fun a j _ h1 h2 _ => pTs_el ts a j (Or.inl ⟨h1, h2⟩), fun i hi => ⟨pTs_el ts _ _ (Or.inr hi), pTs_el ts _ _ (Or.inr hi)⟩, fun i _ => pTs_el ts _ _ (Or.inl ⟨by decide, by decide⟩), fun i _ _ => pTs_el ts _ _ (Or.inl ⟨by decide, by decide⟩)⟩
/-- a task that pushes tasks alone -/
theorem TKS.push {lo hi j u v e δ : Int} {k k' : Nat} {Kn : List Int} {seg : List Stq} {w n : Int} {ts : List (Int × Int)} {ins outs : List Int} {avq avp : List (Int × Int)} (hN : 30000001 ≤ N) (h : TKS N U ℓ τp vlo lo hi P Kn j seg u v k e δ ts ins outs avq avp) (hk : k + 1 ≤ k') (hu : 1 ≤ u ∧ ts.length ≤ u)
    (H : ∀ τ : St, (∀ a i : Int, 85 ≤ a → a ≤ 94 → lo ≤ i → i < hi → el τ a i = el τp a i) → (0 ≤ fl τ 65 0 ∧ fl τ 65 0 + ts.length ≤ 20000) → r_does N τ w n = some (pTs τ ts)) : TKS N U ℓ τp vlo lo hi P Kn j seg u v k' e δ [(w, n)] ins outs avq avp :=
  TKS.step hN h hk hu.1 (fun g π σ τ Kn' base T Q ht hK hF => by
    obtain ⟨f1, f2, f3, f4, f5, f6, f7, f8, f9, f10⟩ := hF
    have rf := pTs_rf (τ := τ) ts Q vlo lo hi
    have kk := RF.kp (ℓ := ℓ) (rb := base + P + j) (π := π) (σ := σ) rf
    refine ⟨pTs τ ts, H τ ht ⟨by omega, by omega⟩, by rw [f1] at rf; exact rf, by rw [pTs_65, f1], by have := pTs_sk (τ := τ) ts; rwa [f1] at this, by rw [pTs_fl _ _ _ (by decide), f2], At.mono (fun i o _ _ _ ho => by rw [pTs_el _ _ _ (Or.inl ⟨by decide, by decide⟩)]; exact ho.kp kk (Int.le_refl _)) f3, fun x hx => by rw [pTs_el _ _ _ (Or.inl ⟨by decide, by decide⟩)]; exact (f4 x hx).kp kk (Int.le_refl _)⟩)
end SP
