/-! a task that makes a pattern -/
section TM2
variable {N : Nat} {U : Gl → Int → Stq → Prop} {ℓ : Int} {τp : St} {vlo P : Int}
/-- both have a fault: both end -/
theorem fin_fault {g : Gl} {π : Sh} {σ τ : St} {t s : Nat} {x : Int} (hN : 30000001 ≤ N) (ht : t ≤ 1000) (hs : s ≤ 30000000) (h88 : fl σ 88 3 = x) (h11 : fl τ 11 0 = x) (hx : 5 ≤ x ∧ x ≤ 10) (h65 : 0 ≤ fl τ 65 0 ∧ fl τ 65 0 ≤ 20000) (h : AGR g π σ τ (-1) (-1)) : FIN N g π σ τ t s := by
  refine ⟨π, σ, τ, -1, -1, ?_, ?_, h⟩
  · rw [show N - t = (N - t - 1) + 1 by omega, Mk_make_28, grd_t (by exact ⟨by omega, by omega⟩), if_pos (by omega), h88, grd_t (by exact ⟨by omega, by omega⟩), if_neg (by omega)]
    rfl
  · rw [show N - s = (N - s - 1) + 1 by omega, r_makes_21, grd_t (by exact ⟨by omega, by omega⟩), h11, grd_t (by exact ⟨by omega, by omega⟩), if_neg (show ¬ x = 0 by omega), ite_self, r_makes_70, h11, grd_t (by exact ⟨by omega, by omega⟩), if_neg (by omega)]
theorem xsB_r (B : Int × Int × Int × Int) (D : Int) : xsB B D = 0 ∨ (5 ≤ xsB B D ∧ xsB B D ≤ 10) := by
  unfold xsB xs
  repeat' split
  all_goals omega
theorem SG.get {L : List Stq} {j : Int} {x : Stq} (h : SG L j [x]) : ∃ jn : Nat, j = jn ∧ L[jn]? = some x := by
  obtain ⟨pre, post, h1, h2⟩ := h
  refine ⟨pre.length, h2.symm, ?_⟩
  rw [h1]
  simp
theorem TKS.made {lo hi j u v e δ K place a b c d cnt : Int} {k : Nat} {Kn : List Int} {ops : List Kid} {w n : Int} {ins : List Int} {avq : List (Int × Int)} (hN : 30000001 ≤ N) (hK : K ≠ 99) (hv : IV K a b c d ops) (hw : ∀ o ∈ ops, (1 ≤ o.2.1 ∧ o.2.1 ≤ 16) ∧ 1 ≤ o.2.2 ∧ o.2.2 ≤ 16) (hl : ops.length ≤ 2000) (hk : 1 ≤ k) (hu : 1 ≤ u) (hvv : 1 ≤ v) (he : e + ops.length ≤ 2 * (bsd cnt ops.length + 1)) (hd : ops.length ≤ bsd cnt ops.length + 10 + δ ∧ 0 ≤ δ)
    (H : ∀ (g : Gl) (π : Sh) (σ τ : St) (Kn' : List Int) (base T Q : Int), (∀ a i : Int, 85 ≤ a → a ≤ 94 → lo ≤ i → i < hi → el τ a i = el τp a i) → Kn <+: Kn' → TF g ℓ P base j T Q u v Kn' ins avq π σ τ → ∃ τ2 ks, r_does N τ w n = rCM N τ2 (bsd cnt ops.length) Q K a b c d place ks ∧ RF T Q vlo lo hi τ τ2 ∧ fl τ2 65 0 = T ∧ OV2 π σ τ2 base (base + P + j) Kn' ops ks) : TKS N U ℓ τp vlo lo hi P Kn j [(K, place, a, b, c, d, cnt, ops)] u v k e δ [(w, n)] ins [P + j] avq [] := by
  intro g π σ τ t s D L Kn' o base T Q h1 h2 h3 h4 h5 h6 h7 h8 h9 h10 h11 h12 h13 h14 h15 h16 h17 hF
  have e1 : fl τ 65 0 = T + 1 := by rw [h9]; rfl
  obtain ⟨k1, k2, k3, k6, k7, k8, k86, kt, knn, ksw, k61, k48⟩ := id h7
  have hP := h2.2.2.1
  have q56 : el τ 56 T = w ∧ el τ 55 T = n := by simpa using h10.1
  have rf1 : RF T Q vlo lo hi τ (sf τ 65 0 T) := ⟨fun f i a _ => fl_sfn _ _ _ _ a, fun _ _ _ _ _ _ => rfl, fun _ _ => ⟨rfl, rfl⟩, fun _ _ => rfl, fun _ _ _ => rfl⟩
  have kk1 : KP ℓ (base + P + j) T Q vlo lo hi π σ τ π σ (sf τ 65 0 T) := rf1.kp
  have sg1 : ∀ f i, f ≠ 65 → fl (sf τ 65 0 T) f i = fl τ f i := fun f i hf => fl_sfn _ _ _ _ hf
  obtain ⟨τ2, ks, d1, rf2, s65, d2⟩ := H g π σ (sf τ 65 0 T) Kn' base T Q (fun a i x y z q => (k2.2.1 a i (by omega) (by omega)).trans (h1 a i x y z q)) h5 ⟨fl_sfs _ _ _ _, (sg1 68 0 (by decide)).trans h11, At.mono (fun i o _ _ _ ho => ho.kp kk1 (Int.le_refl _)) h12, fun x hx => (h13 x hx).kp kk1 (Int.le_refl _), ⟨h14.1, h14.2⟩, h15, (sg1 11 0 (by decide)).trans k8.2, ⟨(sg1 70 0 (by decide)).trans k6.2.1, k6.2.2.1, k6.2.2.2, by rw [sg1 64 0 (by decide)]; exact k7.2⟩, hP, fun i i0 i1 => Or.inr ⟨⟨i0, by omega⟩, by have := h8.2.1; omega, (h8.2.2.2.2 i i0 i1).1, (h8.2.2.2.2 i i0 i1).2.grow (HX.rf _ _) kk1.2.1⟩⟩
  have rf0 : RF T Q vlo lo hi τ τ2 := rf1.tr rf2
  have kk : KP ℓ (base + P + j) T Q vlo lo hi π σ τ π σ τ2 := rf0.kp
  have sg : ∀ f i, f ≠ 65 → f ≠ 68 → fl τ2 f i = fl τ f i := rf0.1
  obtain ⟨jn, hjn, hget⟩ := h4.get
  have h8' : FM π σ τ ℓ D P base jn := by rw [← hjn]; exact h8
  obtain ⟨st, sq, mk⟩ := c_turn (N := N) (n := N - (t + 1)) h2 h7 h8' hget
  rw [← hjn] at sq mk
  obtain ⟨⟨f6, f7, f8⟩, fj, fb, fc, fp⟩ := id h8
  have srq : SRq π (se σ 8 ℓ (j + 1)) st K place a b c d cnt ops := by
    rcases sq with ⟨x, _⟩ | ⟨_, x⟩
    · exact absurd x hK
    · exact x
  obtain ⟨σ1, hσ1⟩ : ∃ σ1, σ1 = se σ 8 ℓ (j + 1) := ⟨_, rfl⟩
  rw [← hσ1] at srq mk
  have F1 : ∀ (f : Nat) i, fl σ1 f i = fl σ f i := fun f i => by rw [hσ1]; rfl
  have E1 : ∀ a i : Int, a ≠ 8 → el σ1 a i = el σ a i := fun a i ha => by rw [hσ1, el_sen _ _ _ _ ha]
  have hX1 : HX π σ π σ1 := HX.of ⟨fun f i _ => F1 f i, fun a i ha => E1 a i (by omega)⟩
  have len := d2.len
  have bb : 0 ≤ bsd cnt ops.length ∧ bsd cnt ops.length ≤ 2000 := by unfold bsd; split <;> omega
  -- the values of the operands, at any tables that have grown
  have opr : ∀ τ1, TX τ2 τ1 → OPR π σ1 τ1 ops ks ∧ ∀ k ∈ ks, KOK τ1 k ∧ 0 ≤ k.1 ∧ k.1 < fl τ1 48 0 := fun τ1 hT => OV2.opr (ℓ := ℓ) (σ := σ) (τ := τ2) h2 k1 (rf0.js (s' := s) h7).2.1 (by rw [F1]; exact k6.1) (by rw [E1 _ _ (by decide)]; exact f6) (by rw [E1 _ _ (by decide)]; exact f7) ⟨fb, by omega⟩ hX1 (fun i _ => E1 5 i (by decide)) hT ops ks d2 hw
  have ivk := d2.iv hv
  obtain ⟨r0, k0⟩ := opr τ2 (TX.rf _)
  obtain ⟨τ', c1, c2, c3⟩ := rCM' (N := N) (τ := τ2) (bs := bsd cnt ops.length) (q := Q) (K := K) (a := a) (b := b) (c := c) (d := d) (place := place) (ks := ks) (by omega) (by rw [sg 48 0 (by decide) (by decide)]; omega) (by rw [sg 61 0 (by decide) (by decide), sg 64 0 (by decide) (by decide)]; exact ⟨k61, fun _ => by omega⟩) (by omega) k0 ivk (by rw [sg 11 0 (by decide) (by decide)]; exact k8.2) (by rw [sg 64 0 (by decide) (by decide)]; exact k7.2) (by rw [sg 70 0 (by decide) (by decide)]; omega) ⟨h15.1, by omega⟩ bb
  rw [sg 64 0 (by decide) (by decide), sg 48 0 (by decide) (by decide), sg 61 0 (by decide) (by decide)] at c3
  have spp : spt τ2 place = spt τ place := by unfold spt; rw [sg 70 0 (by decide) (by decide), sg 71 0 (by decide) (by decide)]
  rw [spp] at c3
  refine fin_does hN (by omega) e1 ⟨h14.1, by omega⟩ k8.2 q56 (by rw [d1]; exact c1) ?_
  -- the class's turn
  have fin : ∀ τ'' π' σ', Mk_carryOut N π σ1 st (base + P + j) = some (π', σ') → FIN N g π' σ' τ'' (t + 1) (s + 1) → FIN N g π σ τ'' t (s + 1) := by
    intro τ'' π' σ' hc hf
    obtain ⟨a1, a2, a3, a4, a5, a6, a7, a8⟩ := hf
    refine ⟨a1, a2, a3, a4, a5, ?_, a7, a8⟩
    rw [show N - t = N - (t + 1) + 1 by omega, mk, hc, Option.bind_some]
    exact a6
  have so := srq.1
  have wh : spt τ place = if ℓ = 0 then place else fl σ 86 3 := by
    unfold spt
    rw [k6.2.1]
    by_cases c0 : ℓ = 0
    · rw [if_neg (by omega), if_pos c0]
    · rw [if_pos (by omega), if_neg c0, k86 (by omega)]
  have carry : ∀ π' σ' r, Mk_build N π σ1 st (spt τ place) = some (π', σ', r) → (r < 0 ∨ ob π' r 5) → Mk_carryOut N π σ1 st (base + P + j) = some (π', se σ' 5 (base + P + j) r) := by
    intro π' σ' r hb hr
    have kb := kcO_b K
    have c18 : Mk_carryOut_18 N π σ1 st (base + P + j) (spt τ place) = some (π', se σ' 5 (base + P + j) r) := by
      rw [Mk_carryOut_18, grd_t so, srq.2.1.1, grd_t (by exact ⟨by omega, by omega⟩), if_neg (by omega), grd_t (by exact ⟨by omega, by omega⟩), if_pos (by omega), hb, Option.bind_some, Mk_carryOut_56, grd_t (by exact ⟨by omega, by omega⟩), grd_t hr]
    rw [Mk_carryOut, F1 85 3, k6.1, grd_t (by exact ⟨by omega, by omega⟩)]
    by_cases c0 : ℓ = 0
    · rw [if_pos c0, grd_t so, srq.2.2.1]
      rw [wh, if_pos c0] at c18; exact c18
    · rw [if_neg c0, F1 86 3]
      rw [wh, if_neg c0] at c18; exact c18
  -- what is the same of the class
  have fc : ∀ π' σ' r, NW π σ1 π' σ' → FC g π' (se σ' 5 (base + P + j) r) := fun π' σ' r hn => ⟨k1.1.tr hn.1, fun f i hi hx => by
      have := k1.1.1
      rw [fl_se, hn.2.1 f i (by omega) (by omega), F1]; exact k1.2.1 f i hi hx, fun x i hx hy => by
      have := k1.1.1
      rw [el_sen _ _ _ _ (by omega), hn.2.2 x i (by omega), E1 x i (by omega)]; exact k1.2.2 x i hx hy⟩
  have fr : FRr g τ' := by
    obtain ⟨y1, y2, y3⟩ := c2
    refine ⟨fun f i a1 a2 a3 a4 a5 a6 a7 a8 a9 a10 => ?_, fun x i x1 x2 => ?_, (k2.2.2.tr kk.2.1).tr y3⟩
    · rw [y1 f i a1 a2 a3 a4 a5 a7 a10, sg f i a6 a7]; exact k2.1 f i a1 a2 a3 a4 a5 a6 a7 a8 a9 a10
    · rw [y2 x i (by omega) (by omega), rf0.2.1 x i (by omega) (by omega) (by omega) x2]; exact k2.2.1 x i x1 x2
  have t65 : fl τ' 65 0 = T := by rw [c2.1 65 0 (by decide) (by decide) (by decide) (by decide) (by decide) (by decide) (by omega), s65]
  have n56 := k3.1
  -- both makers of it
  have bld := fun τ1 (hT : TX τ2 τ1) => c_build (N := N) (π := π) (σ := σ1) (τ := τ1) (s := st) (x2 := spt τ place) (ks := ks) (by omega) k3 srq (by rw [F1, k6.1]; omega) (opr τ1 hT).1 ivk (by rw [F1, k7.1]; exact k7.2) (by rw [F1]; exact k8.1)
  have e87 : fl σ1 87 3 = fl τ 64 0 := by rw [F1, k7.1]
  have e88 : fl σ1 88 3 = 0 := by rw [F1, k8.1]
  rcases c3 with ⟨x1, x2, x3, x4⟩ | ⟨x1, τ1, x2, x3, x4, x5, x5', x6⟩
  · rcases bld _ (TX.rf _) with ⟨b1, σ', b2, b3, b4, b5, b6⟩ | ⟨b1, -⟩
    · refine fin _ _ _ (carry _ _ _ b2 (Or.inl (by omega))) (fin_fault (x := 5) hN (by omega) (by omega) (by rw [fl_se]; exact b5) x2 (by omega) (by omega) ?_)
      refine ⟨fc _ _ _ b3, fr, k3, by rw [fl_se, b4, x4]; omega, by rw [fl_se, b5, x2], by omega, by omega, Or.inr ⟨by omega, rfl, rfl, by rw [fl_se, b6, x3]⟩⟩
    · rw [e87] at b1; omega
  · rcases bld τ1 x3 with ⟨b1, -⟩ | ⟨b1, π', σ', b2, b3, b4, b5⟩
    · rw [e87] at b1; omega
    · have nw1 : NW π σ1 π' σ' := b2
      rcases x6 with ⟨y1, y2, y3, y4⟩ | ⟨y1, y2, y3, y4⟩
      · rcases b5 with ⟨z1, z2, z3, z4, z5⟩ | ⟨z1, -⟩
        · have xr : 5 ≤ xsB (bds τ1 K a b c d ks) (dpt τ1 ks) ∧ xsB (bds τ1 K a b c d ks) (dpt τ1 ks) ≤ 10 := by rcases xsB_r (bds τ1 K a b c d ks) (dpt τ1 ks) with h | h <;> omega
          refine fin _ _ _ (carry _ _ _ z2 (Or.inl (by omega))) (fin_fault (x := xsB (bds τ1 K a b c d ks) (dpt τ1 ks)) hN (by omega) (by omega) (by rw [fl_se]; exact z4) y2 xr (by omega) ?_)
          refine ⟨fc _ _ _ nw1, fr, k3.ext nw1.1, by rw [fl_se, z3, y4, e87]; omega, by rw [fl_se, z4, y2], by omega, by omega, Or.inr ⟨by omega, rfl, rfl, by rw [fl_se, z5, y3]⟩⟩
        · exact absurd z1 y1
      · rcases b5 with ⟨z1, -⟩ | ⟨z1, r, A, z2, z3, z4, z5, z6, z7, z8, z9, z10, z11, z12, z13, z14, z15⟩
        · exact absurd y1 z1
        · have mp := made_PR srq (opr τ1 x3).1 ivk nw1.hx x2 y3 y1 y2 y4 z5 z7 z8 z9 z10 ⟨z11, z12, z13, z14, z15⟩ (fun k hk => by have := ((opr τ1 x3).2 k hk).2.2; have := x2.1; omega)
          obtain ⟨σ2, hσ2⟩ : ∃ σ2, σ2 = se σ' 5 (base + P + j) r := ⟨_, rfl⟩
          have sm : SameC σ' σ2 := by rw [hσ2]; exact (SameC.rf _).se _ _ (by omega)
          have hx2 : HX π' σ' π' σ2 := HX.of sm
          have pr2 : PRn π' σ2 τ' r (fl τ 48 0) := mp.2.grow hx2 (TX.rf _)
          obtain ⟨w1, w2, w3, w4, w5, w6, w7⟩ := id y2
          rw [x4] at w4
          rw [x5'] at w5 w6
          have F2 : ∀ (f : Nat) i, i < 56 → ¬ (i = 3 ∧ 87 ≤ f ∧ f ≤ 89) → fl σ2 f i = fl σ f i := fun f i hi hx => by rw [hσ2, fl_se, nw1.2.1 f i (by omega) hx, F1]
          have E2 : ∀ x i : Int, x < 56 → x ≠ 5 → x ≠ 8 → el σ2 x i = el σ x i := fun x i hi h5 h8 => by rw [hσ2, el_sen _ _ _ _ h5, nw1.2.2 x i (by omega), E1 _ _ h8]
          have E28 : ∀ i : Int, el σ2 8 i = if i = ℓ then j + 1 else el σ 8 i := fun i => by
            rw [hσ2, el_sen _ _ _ _ (by decide), nw1.2.2 8 i (by omega), hσ1, el_se]
            by_cases c0 : i = ℓ
            · rw [if_pos ⟨rfl, c0⟩, if_pos c0]
            · rw [if_neg (by omega), if_neg c0]
          have E25 : ∀ i : Int, el σ2 5 i = if i = base + P + j then r else el σ 5 i := fun i => by
            rw [hσ2, el_se]
            by_cases c0 : i = base + P + j
            · rw [if_pos ⟨rfl, c0⟩, if_pos c0]
            · rw [if_neg (by omega), if_neg c0, nw1.2.2 5 i (by omega), E1 _ _ (by decide)]
          have g87 : fl σ2 87 3 = fl τ' 64 0 := by rw [hσ2, fl_se, z3, e87, w4]
          have g88 : fl σ2 88 3 = 0 := by rw [hσ2, fl_se, z4, e88]
          have t61 : fl τ' 61 0 = fl τ 61 0 + ks.length := by rw [y4, x5]
          have t70 : fl τ' 70 0 = ℓ := by rw [c2.1 70 0 (by decide) (by decide) (by decide) (by decide) (by decide) (by decide) (by omega), sg 70 0 (by decide) (by decide), k6.2.1]
          have t71 : fl τ' 71 0 = fl τ 71 0 := by rw [c2.1 71 0 (by decide) (by decide) (by decide) (by decide) (by decide) (by decide) (by omega), sg 71 0 (by decide) (by decide)]
          have ea : ∀ x i : Int, ¬ (57 ≤ x ∧ x ≤ 70) → ¬ (x = 54 ∧ i = Q) → el τ' x i = el τ2 x i := fun x i hx hy => c2.2.1 x i hx hy
          refine fin _ _ _ (carry _ _ _ z2 (Or.inr z5)) ?_
          rw [← hσ2]
          refine hF π' σ2 τ' (t + 1) (s + 1) ⟨⟨by rw [hσ2]; exact fc _ _ _ nw1, fr, k3.ext nw1.1, ⟨by rw [F2 85 3 (by omega) (by omega)]; exact k6.1, t70, k6.2.2⟩, ⟨g87, by omega, by omega⟩, ⟨g88, w1⟩, fun hl => by rw [F2 86 3 (by omega) (by omega), t71]; exact k86 hl, by omega, by omega, by omega, by omega, by omega, by omega⟩, ⟨hX1.tr (nw1.hx.tr hx2), kk.2.1.tr c2.2.2, fun i _ => ⟨E2 6 i (by omega) (by decide) (by decide), E2 7 i (by omega) (by decide) (by decide)⟩, fun i hi => by rw [E28, if_neg (by omega)], fun i hi => by rw [E25, if_neg (by omega)], fun i hi => ⟨(ea 55 i (by omega) (by omega)).trans (rf0.2.2.1 i hi).1, (ea 56 i (by omega) (by omega)).trans (rf0.2.2.1 i hi).2⟩, fun i hi => (ea 54 i (by omega) (by omega)).trans (rf0.2.2.2.1 i hi), fun i hi => (ea 53 i (by omega) (by omega)).trans (rf0.2.1 53 i (by decide) (by decide) (by decide) (by decide)), fun hl => ⟨t71, F2 86 3 (by omega) (by omega)⟩, fun i hi hj => (ea 84 i (by omega) (by omega)).trans (rf0.2.2.2.2 i hi hj)⟩, by rw [E28, if_pos rfl]; rfl, t65, by rw [w5]; rfl, ⟨?_, trivial⟩, fun x hx => absurd hx (by simp), by simp only [List.length_cons, List.length_nil]; omega, by omega, by omega⟩
          refine Or.inr ⟨⟨by omega, by omega⟩, by simp only [List.length_cons, List.length_nil]; omega, ?_, ?_⟩
          · rw [E25, if_pos (by omega)]; exact z5
          · rw [E25, if_pos (by omega), w6]; exact pr2
end TM2
