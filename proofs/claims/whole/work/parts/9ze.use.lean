/-! a use of a definition: both -/
/-- the height that tasks and pile may come to from a level on -/
def HLv (ℓ : Int) : Int := 1300 * (13 - ℓ) + 2500
/-- a definition that may be used at a level: its body makes what it should, one level further -/
def UDo (N : Nat) (U' : Gl → Int → Stq → Prop) (ℓ : Int) : Gl → Int → Stq → Prop := fun g vlo x => ∃ (P : Int) (L : List Stq) (Kn : List Int) (o n lo hi vlo' u v : Int) (k : Nat), DS g x.2.2.1 P L Kn o ∧ (x.2.2.2.2.2.2.2.length : Int) = P ∧ (0 ≤ x.2.2.2.1 ∧ x.2.2.2.1 < 6000) ∧ el g.2.2.1 81 x.2.2.2.1 = P ∧ el g.2.2.1 80 x.2.2.2.1 = n ∧ (hi ≤ vlo ∧ vlo' ≤ vlo) ∧ k ≤ 99000 ∧ u ≤ HLv (ℓ + 1) ∧ v ≤ HLv (ℓ + 1) ∧ TKS N U' (ℓ + 1) g.2.2.1 vlo' lo hi P Kn 0 L u v k 0 0 [(1, n)] [] [o] [] [] ∧ ∀ y ∈ L, y.1 = 99 → U' g vlo' y
section TU
variable {N : Nat} {U U' : Gl → Int → Stq → Prop} {ℓ : Int} {τp : St} {vlo P : Int}
theorem ov2_of {π : Sh} {σ τ : St} {base rb : Int} {Kn : List Int} : ∀ (ops : List Kid) (Q : Int), At (fun i o => OVa π σ τ base rb Kn o (el τ 54 i)) Q (ops.map (fun k => k.1)) → ∃ ks : List Kid, OV2 π σ τ base rb Kn ops ks ∧ At (fun i (k : Kid) => el τ 54 i = k.1) Q ks
  | [], _, _ => ⟨[], trivial, trivial⟩
  | o :: ops, Q, h => by
    obtain ⟨ks, k1, k2⟩ := ov2_of ops (Q + 1) h.2
    exact ⟨(el τ 54 Q, o.2) :: ks, ⟨⟨rfl, h.1⟩, k1⟩, rfl, k2⟩
theorem At.get {α : Type} {Q : Int → α → Prop} : ∀ {l : List α} {a : Int} (i : Nat), At Q a l → (hi : i < l.length) → Q (a + i) l[i]
  | x :: l, a, 0, h, _ => by simpa using h.1
  | x :: l, a, i + 1, h, hi => by
    have := At.get i h.2 (by simp only [List.length_cons] at hi; omega)
    rw [show a + ((i + 1 : Nat) : Int) = a + 1 + (i : Int) by omega]
    exact this
set_option maxHeartbeats 2000000 in
theorem TKS.use {lo hi j u v e δ place Dd d n w : Int} {ins : List Int} {k : Nat} {Kn : List Int} {ops : List Kid} {avq : List (Int × Int)} (hN : 30000001 ≤ N) (hU : ℓ < 12 → ∀ g vlo x, U g vlo x → UDo N U' ℓ g vlo x) (hn : 0 ≤ n ∧ n < 32768 ∧ lo ≤ n ∧ n < hi) (h92 : el τp 92 n = d) (h93 : el τp 93 n = place) (hu : HLv (ℓ + 1) + 2 ≤ u) (hv : HLv (ℓ + 1) + 4 ≤ v) (hk : 1 ≤ k) (he : e ≤ 2) (hd : 0 ≤ δ)
    (H : ∀ (g : Gl) (π : Sh) (σ τ : St) (Kn' : List Int) (base T Q : Int), (∀ a i : Int, 85 ≤ a → a ≤ 94 → lo ≤ i → i < hi → el τ a i = el τp a i) → Kn <+: Kn' → TF g ℓ P base j T Q u v Kn' ins avq π σ τ → ∃ τ2, r_does N τ w n = r_use N τ2 n ∧ RF T Q vlo lo hi τ τ2 ∧ fl τ2 65 0 = T ∧ fl τ2 68 0 = Q + ops.length ∧ PVs π σ τ2 base (base + P + j) Kn' Q (ops.map (fun k => k.1))) : TKS N U ℓ τp vlo lo hi P Kn j [(99, place, Dd, d, 0, 0, 0, ops)] u v k e δ [(w, n)] ins [P + j] avq [] := by
  intro g π σ τ t s D L Kn' o base T Q h1 h2 h3 h4 h5 h6 h7 h8 h9 h10 h11 h12 h13 h14 h15 h16 h17 hF
  have e1 : fl τ 65 0 = T + 1 := by rw [h9]; rfl
  obtain ⟨k1, k2, k3, k6, k7, k8, k86, kt, knn, ksw, k61, k48⟩ := id h7
  have hP := h2.2.2.1
  have q56 : el τ 56 T = w ∧ el τ 55 T = n := by simpa using h10.1
  have HLv0 : 0 ≤ HLv (ℓ + 1) := by unfold HLv; omega
  have rf1 : RF T Q vlo lo hi τ (sf τ 65 0 T) := ⟨fun f i a _ => fl_sfn _ _ _ _ a, fun _ _ _ _ _ _ => rfl, fun _ _ => ⟨rfl, rfl⟩, fun _ _ => rfl, fun _ _ _ => rfl⟩
  have kk1 : KP ℓ (base + P + j) T Q vlo lo hi π σ τ π σ (sf τ 65 0 T) := rf1.kp
  have sg1 : ∀ f i, f ≠ 65 → fl (sf τ 65 0 T) f i = fl τ f i := fun f i hf => fl_sfn _ _ _ _ hf
  obtain ⟨τ2, d1, rf2, s65, d3, d2⟩ := H g π σ (sf τ 65 0 T) Kn' base T Q (fun a i x y z q => (k2.2.1 a i (by omega) (by omega)).trans (h1 a i x y z q)) h5 ⟨fl_sfs _ _ _ _, (sg1 68 0 (by decide)).trans h11, At.mono (fun i o _ _ _ ho => ho.kp kk1 (Int.le_refl _)) h12, fun x hx => (h13 x hx).kp kk1 (Int.le_refl _), ⟨h14.1, h14.2⟩, h15, (sg1 11 0 (by decide)).trans k8.2, ⟨(sg1 70 0 (by decide)).trans k6.2.1, k6.2.2.1, k6.2.2.2, by rw [sg1 64 0 (by decide)]; exact k7.2⟩, hP, fun i i0 i1 => Or.inr ⟨⟨i0, by omega⟩, by have := h8.2.1; omega, (h8.2.2.2.2 i i0 i1).1, (h8.2.2.2.2 i i0 i1).2.grow (HX.rf _ _) kk1.2.1⟩⟩
  have rf0 : RF T Q vlo lo hi τ τ2 := rf1.tr rf2
  have kk : KP ℓ (base + P + j) T Q vlo lo hi π σ τ π σ τ2 := rf0.kp
  have sg : ∀ f i, f ≠ 65 → f ≠ 68 → fl τ2 f i = fl τ f i := rf0.1
  have k2e : ∀ a j : Int, ¬ (53 ≤ a ∧ a ≤ 70) → a ≠ 84 → el τ2 a j = el g.2.2.1 a j := fun a j x y => (rf0.2.1 a j (by omega) (by omega) (by omega) y).trans (k2.2.1 a j x y)
  have spp : spt τ2 place = spt τ place := by unfold spt; rw [sg 70 0 (by decide) (by decide), sg 71 0 (by decide) (by decide)]
  have tb : ∀ a, 85 ≤ a → a ≤ 94 → el τ2 a n = el τp a n := fun a x y => (rf0.2.1 a n (by omega) (by omega) (by omega) (by omega)).trans <| (k2.2.1 a n (by omega) (by omega)).trans (h1 a n x y hn.2.2.1 hn.2.2.2)
  obtain ⟨jn, hjn, hget⟩ := h4.get
  have hmem : (99, place, Dd, d, 0, 0, 0, ops) ∈ L := List.mem_of_getElem? hget
  have h8' : FM π σ τ ℓ D P base jn := by rw [← hjn]; exact h8
  obtain ⟨st, sq, mk⟩ := c_turn (N := N) (n := N - (t + 1)) h2 h7 h8' hget
  rw [← hjn] at sq mk
  obtain ⟨⟨f6, f7, f8⟩, fj, fb, fc, fp⟩ := id h8
  have usq : USq π (se σ 8 ℓ (j + 1)) st place Dd ops := by
    rcases sq with ⟨_, x⟩ | ⟨x, _⟩
    · exact x
    · exact absurd rfl x
  obtain ⟨σ1, hσ1⟩ : ∃ σ1, σ1 = se σ 8 ℓ (j + 1) := ⟨_, rfl⟩
  rw [← hσ1] at usq mk
  have F1 : ∀ (f : Nat) i, fl σ1 f i = fl σ f i := fun f i => by rw [hσ1]; rfl
  have E1 : ∀ a i : Int, a ≠ 8 → el σ1 a i = el σ a i := fun a i ha => by rw [hσ1, el_sen _ _ _ _ ha]
  have E18 : ∀ i : Int, el σ1 8 i = if i = ℓ then j + 1 else el σ 8 i := fun i => by
    rw [hσ1, el_se]
    by_cases c0 : i = ℓ
    · rw [if_pos ⟨rfl, c0⟩, if_pos c0]
    · rw [if_neg (by omega), if_neg c0]
  have hX1 : HX π σ π σ1 := HX.of ⟨fun f i _ => F1 f i, fun a i ha => E1 a i (by omega)⟩
  have n56 := k3.1
  obtain ⟨u1, u2, u3, u4, u4', u5, u6, u7⟩ := id usq
  -- the class's turn
  have fin : ∀ τ'' π' σ', Mk_carryOut N π σ1 st (base + P + j) = some (π', σ') → FIN N g π' σ' τ'' (t + 1) (s + 1) → FIN N g π σ τ'' t (s + 1) := by
    intro τ'' π' σ' hc hf
    obtain ⟨a1, a2, a3, a4, a5, a6, a7, a8⟩ := hf
    refine ⟨a1, a2, a3, a4, a5, ?_, a7, a8⟩
    rw [show N - t = N - (t + 1) + 1 by omega, mk, hc, Option.bind_some]
    exact a6
  have wh : spt τ place = if ℓ = 0 then place else fl σ 86 3 := by
    unfold spt
    rw [k6.2.1]
    by_cases c0 : ℓ = 0
    · rw [if_neg (by omega), if_pos c0]
    · rw [if_pos (by omega), if_neg c0, k86 (by omega)]
  have carry : ∀ σ', Mk_begin N π σ1 st (base + P + j) (spt τ place) = some σ' → Mk_carryOut N π σ1 st (base + P + j) = some (π, σ') := by
    intro σ' hb
    have c18 : Mk_carryOut_18 N π σ1 st (base + P + j) (spt τ place) = some (π, σ') := by
      rw [Mk_carryOut_18, grd_t u1, u2, grd_t (by exact ⟨by omega, by omega⟩), if_pos rfl, hb, Option.bind_some]
    rw [Mk_carryOut, F1 85 3, k6.1, grd_t (by exact ⟨by omega, by omega⟩)]
    by_cases c0 : ℓ = 0
    · rw [if_pos c0, grd_t u1, u3]
      rw [wh, if_pos c0] at c18; exact c18
    · rw [if_neg c0, F1 86 3]
      rw [wh, if_neg c0] at c18; exact c18
  have fcf : ∀ x y : Int, FC g π (sf (sf σ1 88 3 x) 89 3 y) := fun x y => ⟨k1.1, fun f i hi hx => by
      rw [fl_sf, if_neg (by omega), fl_sf, if_neg (by omega), F1]; exact k1.2.1 f i hi hx, fun x i hx hy => by
      rw [el_sf, el_sf, E1 x i (by omega)]; exact k1.2.2 x i hx hy⟩
  by_cases cf : ℓ = 12 ∨ fl τ 64 0 = 200
  · -- no further level, or too many
    have hPd : ∀ τ', r_use N τ2 n = some τ' → True := fun _ _ => trivial
    have ru : ∃ τ', r_use N τ2 n = some τ' ∧ fl τ' 11 0 = (if ℓ = 12 then 10 else 5) ∧ fl τ' 12 0 = spt τ place ∧ fl τ' 64 0 = fl τ 64 0 ∧ (∀ (f : Nat) (x : Int), f ≠ 11 → f ≠ 12 → f ≠ 64 → fl τ' f x = fl τ2 f x) ∧ (∀ a x : Int, el τ' a x = el τ2 a x) := by
      have h93' : el τ2 93 n = place := (tb 93 (by omega) (by omega)).trans h93
      have sp : r_spot N τ2 place = some (τ2, spt τ place) := by rw [← spp]; exact r_spot' (by rw [sg 70 0 (by decide) (by decide), k6.2.1]; exact ⟨by omega, by omega⟩)
      have g11 : fl τ2 11 0 = 0 := by rw [sg 11 0 (by decide) (by decide)]; exact k8.2
      by_cases c12 : ℓ = 12
      · refine ⟨sf (sf τ2 11 0 10) 12 0 (spt τ place), ?_, by rw [if_pos c12, fl_sfn _ _ _ _ (by decide), fl_sfs], fl_sfs _ _ _ _, by rw [fl_sfn _ _ _ _ (by decide), fl_sfn _ _ _ _ (by decide), sg 64 0 (by decide) (by decide)], fun f x h1 h2 _ => by rw [fl_sfn _ _ _ _ h2, fl_sfn _ _ _ _ h1], fun _ _ => rfl⟩
        rw [r_use, grd_t (by exact ⟨hn.1, hn.2.1⟩), bnd, sg 70 0 (by decide) (by decide), k6.2.1, grd_t (by exact ⟨by omega, by omega⟩), if_pos c12, h93', sp, Option.bind_some, r_fail0 g11, Option.bind_some]
      · obtain ⟨τc, c1, c2, c3, c4⟩ := r_counts_b (N := N) (place := place) (bs := 1) 0 1 N τ2 0 (by omega) (by omega) (by omega) (by omega) (by rw [sg 70 0 (by decide) (by decide), k6.2.1]; omega) g11 (by rw [sg 64 0 (by decide) (by decide)]; exact k7.2)
        rw [sg 64 0 (by decide) (by decide), spp] at c4
        rcases c4 with c4 | ⟨d1, d2, d3, d4⟩
        · omega
        · refine ⟨τc, ?_, by rw [if_neg c12]; exact d3, d4, by omega, c2, fun a x => c3 a x⟩
          rw [r_use, grd_t (by exact ⟨hn.1, hn.2.1⟩), bnd, sg 70 0 (by decide) (by decide), k6.2.1, grd_t (by exact ⟨by omega, by omega⟩), if_neg c12, h93', r_counts, c1, Option.bind_some, d3, grd_t (by exact ⟨by omega, by omega⟩), if_neg (by decide)]
    obtain ⟨τ', r1, r2, r3, r4, r5, r6⟩ := ru
    refine fin_does hN (by omega) e1 ⟨h14.1, by omega⟩ k8.2 q56 (τ' := τ') (by rw [d1]; exact r1) ?_
    have cb : Mk_begin N π σ1 st (base + P + j) (spt τ place) = some (sf (sf σ1 88 3 (if ℓ = 12 then 10 else 5)) 89 3 (spt τ place)) := by
      rw [Mk_begin, F1 85 3, k6.1, grd_t (by exact ⟨by omega, by omega⟩)]
      by_cases c12 : ℓ = 12
      · rw [if_neg (by omega), if_pos c12]; rfl
      · rw [if_pos (by omega), F1 87 3, k7.1, grd_t (by exact ⟨by omega, by omega⟩), if_neg (by omega), if_neg c12]; rfl
    have vr : 5 ≤ (if ℓ = 12 then (10 : Int) else 5) ∧ (if ℓ = 12 then (10 : Int) else 5) ≤ 10 := by split <;> omega
    refine fin _ _ _ (carry _ cb) (fin_fault hN (by omega) (by omega) (by rw [fl_sfn _ _ _ _ (by decide), fl_sfs]) r2 vr (by rw [r5 65 0 (by decide) (by decide) (by decide), s65]; omega) ?_)
    refine ⟨fcf _ _, ⟨fun f i a1 a2 a3 a4 a5 a6 a7 a8 a9 a10 => by rw [r5 f i a1 a2 a5, sg f i a6 a7]; exact k2.1 f i a1 a2 a3 a4 a5 a6 a7 a8 a9 a10, fun x i x1 x2 => (r6 x i).trans (k2e x i x1 x2), k2.2.2.tr (kk.2.1.tr (TX.eq (r5 48 0 (by decide) (by decide) (by decide)) (r5 61 0 (by decide) (by decide) (by decide)) (fun a x _ _ => r6 a x)))⟩, k3, ⟨by rw [fl_sfn _ _ _ _ (by decide), fl_sfn _ _ _ _ (by decide), F1, k7.1, r4], by omega, by omega⟩, by rw [fl_sfn _ _ _ _ (by decide), fl_sfs, r2], by omega, by omega, Or.inr ⟨by rw [r2]; exact vr, rfl, rfl, by rw [fl_sfs, r3]⟩⟩
  · obtain ⟨Pd, Lb, Kb, ob', nb, lob, hib, vlb, ub, vb, kb, b1, b2, b3, b4, b5, b6, b7, b8, b9, b10, b11⟩ := hU (by omega) g vlo _ (h3 _ hmem rfl)
    simp only at b1 b2 b3 b4 b5
    have hPd := b1.2.2.1
    have hops : (1 : Int) ≤ ops.length ∧ (ops.length : Int) ≤ 4 := by omega
    have kk' := kk
    obtain ⟨ks, o1, o2⟩ := ov2_of ops Q d2
    have lk := o1.len
    obtain ⟨τ9, r1, r2⟩ := r_use' (N := N) (τ := τ2) (n := n) (d := d) (place := place) (Pd := Pd) (nb := nb) (ℓ := ℓ) (Q := Q) (T := T) (by omega) ⟨hn.1, hn.2.1⟩ ((tb 92 (by omega) (by omega)).trans h92) ((tb 93 (by omega) (by omega)).trans h93) b3 ((k2e 81 d (by omega) (by omega)).trans b4) (by omega) ((k2e 80 d (by omega) (by omega)).trans b5) ((sg 70 0 (by decide) (by decide)).trans k6.2.1) ⟨by omega, by omega⟩ ((sg 11 0 (by decide) (by decide)).trans k8.2) (by rw [sg 64 0 (by decide) (by decide)]; exact k7.2) (by rw [d3, b2]) ⟨by omega, by omega⟩ s65 ⟨by omega, by omega⟩
    rw [sg 64 0 (by decide) (by decide), spp] at r2
    rcases r2 with ⟨c, -⟩ | ⟨-, r3, r4, r5, r6, r7, r8, r9, r10, r11, r12⟩
    · exact absurd c cf
    · refine fin_does hN (by omega) e1 ⟨h14.1, by omega⟩ k8.2 q56 (τ' := τ9) (by rw [d1]; exact r1) ?_
      -- the class begins a level
      obtain ⟨σb, c1, c2, c3, c4, c5⟩ := c_begin_lp (N := N) (x3 := spt τ place) (σ1 := sf σ1 87 3 (fl σ1 87 3 + 1)) (st := st) (reg := base + P + j) (ℓ := ℓ) (place := place) (Dd := Dd) (ops0 := ops) h2 k1 (rf0.js (s' := s) h7).2.1 (hX1.tr (HX.of ((SameC.rf σ1).sf _ _ (nF (by omega))))) (usq.grow (HX.of ((SameC.rf σ1).sf _ _ (nF (by omega))))) ⟨by omega, by omega⟩ fb (by rw [fl_sfn _ _ _ _ (by decide), F1]; exact k6.1) ⟨by omega, by omega⟩ (by rw [el_sf, E1 _ _ (by decide)]; exact f6) (by rw [el_sf, E1 _ _ (by decide)]; exact f7) (fun i _ => by rw [el_sf, E1 _ _ (by decide)]) ops ks N (sf σ1 87 3 (fl σ1 87 3 + 1)) 0 (by omega) (fun _ _ => rfl) (fun _ _ _ => rfl) (fun _ _ => rfl) (u7.2.2.2.2.mono (fun _ _ _ _ _ h => h)) o1 (by omega) (by omega)
      obtain ⟨σ2, hσ2⟩ : ∃ σ2, σ2 = se (se (se (sf (sf σb 86 3 (spt τ place)) 85 3 (ℓ + 1)) 6 (ℓ + 1) Dd) 7 (ℓ + 1) (base + P + j)) 8 (ℓ + 1) 0 := ⟨_, rfl⟩
      have g85 : fl σb 85 3 = ℓ := by rw [c2, fl_sfn _ _ _ _ (by decide), F1]; exact k6.1
      have g208 : fl σb 208 st = Dd := by rw [c2, fl_sfn _ _ _ _ (by decide)]; exact u4
      have cb : Mk_begin N π σ1 st (base + P + j) (spt τ place) = some σ2 := by
        rw [Mk_begin, F1 85 3, k6.1, grd_t (by exact ⟨by omega, by omega⟩), if_pos (by omega), F1 87 3, k7.1, grd_t (by exact ⟨by omega, by omega⟩), if_pos (by omega)]
        rw [F1 87 3, k7.1] at c1
        rw [c1, Mk_begin_92, grd_t u1, g85, grd_t (by exact ⟨by omega, by omega⟩), g208, grd_t (Or.inr u4'), hσ2]
      refine fin _ _ _ (carry _ cb) ?_
      have F2 : ∀ (f : Nat) i, ¬ (i = 3 ∧ 85 ≤ f ∧ f ≤ 87) → fl σ2 f i = fl σ f i := fun f i h => by
        rw [hσ2, fl_se, fl_se, fl_se, fl_sf, if_neg (by omega), fl_sf, if_neg (by omega), c2, fl_sf, if_neg (by omega), F1]
      have G85 : fl σ2 85 3 = ℓ + 1 := by rw [hσ2, fl_se, fl_se, fl_se, fl_sfs]
      have G86 : fl σ2 86 3 = spt τ place := by rw [hσ2, fl_se, fl_se, fl_se, fl_sfn _ _ _ _ (by decide), fl_sfs]
      have G87 : fl σ2 87 3 = fl τ 64 0 + 1 := by rw [hσ2, fl_se, fl_se, fl_se, fl_sfn _ _ _ _ (by decide), fl_sfn _ _ _ _ (by decide), c2, fl_sfs, F1, k7.1]
      have E2 : ∀ a i : Int, a ≠ 5 → ¬ (6 ≤ a ∧ a ≤ 8 ∧ i = ℓ + 1) → ¬ (a = 8 ∧ i = ℓ) → el σ2 a i = el σ a i := fun a i h5 h6 h7 => by
        rw [hσ2, el_se, if_neg (by omega), el_se, if_neg (by omega), el_se, if_neg (by omega), el_sf, el_sf, c3 _ _ h5, el_sf]
        by_cases c8 : a = 8
        · subst c8; rw [E18, if_neg (by omega)]
        · exact E1 a i c8
      have E28 : el σ2 8 ℓ = j + 1 := by
        rw [hσ2, el_se, if_neg (by omega), el_se, if_neg (by omega), el_se, if_neg (by omega), el_sf, el_sf, c3 _ _ (by decide), el_sf, E18, if_pos rfl]
      have E26' : el σ2 6 (ℓ + 1) = Dd := by rw [hσ2, el_sen _ _ _ _ (by decide), el_sen _ _ _ _ (by decide), el_ses]
      have E27' : el σ2 7 (ℓ + 1) = base + P + j := by rw [hσ2, el_sen _ _ _ _ (by decide), el_ses]
      have E28' : el σ2 8 (ℓ + 1) = 0 := by rw [hσ2, el_ses]
      have E25 : ∀ i, el σ2 5 i = el σb 5 i := fun i => by rw [hσ2, el_sen _ _ _ _ (by decide), el_sen _ _ _ _ (by decide), el_sen _ _ _ _ (by decide), el_sf, el_sf]
      have E25' : ∀ i, i < base + P + j → el σ2 5 i = el σ 5 i := fun i hi => by rw [E25, c4 i (by omega), el_sf, E1 _ _ (by decide)]
      have hX2 : HX π σ π σ2 := HX.all (ext.rf _) (fun f i hf _ => F2 f i (by unfold inF at hf; omega)) (fun a i ha _ => E2 a i (by omega) (by omega) (by omega))
      have hXb : HX π (sf σ1 87 3 (fl σ1 87 3 + 1)) π σ2 := HX.all (ext.rf _) (fun f i hf hi => by rw [fl_sfn _ _ _ _ (by unfold inF at hf; omega), F1]; exact F2 f i (by unfold inF at hf; omega)) (fun a i ha hi => by rw [el_sf, E1 _ _ (by omega)]; exact E2 a i (by omega) (by omega) (by omega))
      have tx2 : TX τ τ9 := kk.2.1.tr (TX.eq (r10 48 0 (by decide) (by decide) (by decide) (by decide) (by decide) (by decide) (by decide)) (r10 61 0 (by decide) (by decide) (by decide) (by decide) (by decide) (by decide) (by decide)) (fun a x h1 h2 => r11 a x (by omega) (by omega)))
      have fc2 : FC g π σ2 := ⟨k1.1, fun f i hi hx => by rw [F2 f i (by omega)]; exact k1.2.1 f i hi hx, fun a i ha hx => by rw [E2 a i (by omega) (by omega) (by omega)]; exact k1.2.2 a i ha hx⟩
      have t61 : fl τ9 61 0 = fl τ 61 0 := by rw [r10 61 0 (by decide) (by decide) (by decide) (by decide) (by decide) (by decide) (by decide), sg 61 0 (by decide) (by decide)]
      have t48 : fl τ9 48 0 = fl τ 48 0 := by rw [r10 48 0 (by decide) (by decide) (by decide) (by decide) (by decide) (by decide) (by decide), sg 48 0 (by decide) (by decide)]
      have fr2 : FRr g τ9 := ⟨fun f i a1 a2 a3 a4 a5 a6 a7 a8 a9 a10 => by rw [r10 f i a1 a2 a5 a6 a7 a8 a9, sg f i a6 a7]; exact k2.1 f i a1 a2 a3 a4 a5 a6 a7 a8 a9 a10, fun x i x1 x2 => (r11 x i (by omega) (by omega)).trans (k2e x i x1 x2), k2.2.2.tr tx2⟩
      have j2 : JS g π σ2 τ9 (t + 1) (s + 1) (ℓ + 1) := ⟨fc2, fr2, k3, ⟨G85, r4, by omega, by omega⟩, ⟨by rw [G87, r3], by omega, by omega⟩, ⟨by rw [F2 88 3 (by omega)]; exact k8.1, r8⟩, fun _ => by rw [G86, r5], by omega, by omega, by omega, by omega, by omega⟩
      have fm2 : FM π σ2 τ9 (ℓ + 1) Dd Pd (base + P + j) 0 := by
        refine ⟨⟨E26', E27', E28'⟩, by omega, by omega, by omega, fun i i0 i1 => ?_⟩
        have hi : i.toNat < ks.length := by omega
        have c := At.get i.toNat c5 hi
        have pq := At.get i.toNat o2 hi
        rw [show (0 : Int) + ((i.toNat : Nat) : Int) = i by omega] at c
        rw [show Q + ((i.toNat : Nat) : Int) = Q + i by omega] at pq
        have e53 : el τ9 53 (4 * (ℓ + 1) + i) = ks[i.toNat].1 := by
          rw [r12, if_pos (by omega), show Q + (4 * (ℓ + 1) + i - 4 * (ℓ + 1)) = Q + i by omega]; exact pq
        rw [e53, E25]
        refine ⟨c.1, c.2.grow hXb (?_ : TX τ2 τ9)⟩
        exact TX.eq (by rw [t48, sg 48 0 (by decide) (by decide)]) (by rw [t61, sg 61 0 (by decide) (by decide)]) (fun a x h1 h2 => r11 a x (by omega) (by omega))
      refine b10 g π σ2 τ9 (t + 1) (s + 1) Dd Lb Kb ob' (base + P + j) (T + 1) Q (fun _ _ _ _ _ _ => rfl) b1 b11 ⟨[], [], by simp, rfl⟩ (List.prefix_refl _) h6 j2 fm2 (by rw [r7]; simp only [List.length_cons, List.length_nil]; omega) ⟨by simpa using r9.1, trivial⟩ (by rw [r6]; simp) trivial (fun x hx => absurd hx (by simp)) ⟨by omega, by omega⟩ ⟨h15.1, by omega⟩ (by omega) (by omega) (fun π3 σ3 τ3 t3 s3 hO => ?_)
      obtain ⟨p1, p2, p3, p4, p5, p6, p7, p8, p9, p10⟩ := hO
      obtain ⟨m1, m2, m3, m6, m7, m8, m86, mt, mnn, msw, m61, m48⟩ := id p1
      simp only [List.length_cons, List.length_nil] at p5
      rw [Int.zero_add] at p3
      -- the end of the level
      have ov : OVa π3 σ3 τ3 (base + P + j) (base + P + j + Pd + (0 + Lb.length)) Kb ob' (el τ3 54 Q) := p6.1
      have e63 : el σ3 6 (ℓ + 1) = Dd := by rw [(p2.2.2.1 (ℓ + 1) (Int.le_refl _)).1]; exact E26'
      have e73 : el σ3 7 (ℓ + 1) = base + P + j := by rw [(p2.2.2.1 (ℓ + 1) (Int.le_refl _)).2]; exact E27'
      obtain ⟨r, v1, v2, v3⟩ := ov.vr (σ1 := σ3) (τ1 := τ3) (ℓ := ℓ + 1) b1 m1 m2 m6.1 e63 e73 ⟨by omega, by omega⟩ (HX.rf _ _) (fun _ _ => rfl) (TX.rf _)
      have op := c_operand (N := N) (show 0 ≤ fl σ3 85 3 ∧ fl σ3 85 3 < 13 by rw [m6.1]; omega) v1
      obtain ⟨q1, q2, q3, q4, q5, q6⟩ := id b1
      have hXg := m1.hx
      have ls : LSq π3 σ3 (fl g.2.1 23 Dd) (SQ π3 σ3) Lb := q4.grow hXg (fun r e _ hr => hr.grow hXg)
      have e23 : fl σ3 23 Dd = fl g.2.1 23 Dd := hXg.fd (in1 (by omega)) q1.2.1
      have e25 : fl σ3 25 Dd = ob' := (hXg.fd (in1 (by omega)) q1.2.1).trans q6
      have mk3 : Mk_make_28 N (N - t3) π3 σ3 t3 = Mk_make_28 N (N - (t3 + 1)) π3 (sf (se σ3 5 (base + P + j) r) 85 3 ℓ) ((t3 + 1 : Nat) : Int) := by
        rw [show N - t3 = N - (t3 + 1) + 1 by omega, Mk_make_28, grd_t (by exact ⟨by omega, by omega⟩), if_pos (by omega), m8.1, grd_t (by exact ⟨by omega, by omega⟩), if_pos rfl, m6.1, grd_t (by exact ⟨by omega, by omega⟩), bnd, bnd, e63, p3, grd_t (q1.ext hXg.1), e23, L_size, grd_t ls.1, Option.bind_some, grd_t ls.1, grd_t (by exact ⟨by omega, by have := ls.2.2.1; omega⟩)]
        simp only
        rw [ls.2.1, grd_t (by exact ⟨by omega, by have := ls.2.2.1; omega⟩), if_neg (by omega), e25, op, Option.bind_some]
        simp only
        rw [m6.1, grd_t (by exact ⟨by omega, by omega⟩), if_neg (by omega), grd_t (by exact ⟨by omega, by omega⟩), e73, grd_t (by exact ⟨by omega, by omega⟩), grd_t (Or.inr v3), Mk_make_169, show ℓ + 1 - 1 = ℓ by omega]
        rfl
      have kt3 := p2.2.2.2.2.2.1 T (by omega)
      have sk2 : el τ9 56 T = 23 ∧ el τ9 55 T = -1 := by have := r9.2.1; simpa using this
      have fend : FIN N g π3 (sf (se σ3 5 (base + P + j) r) 85 3 ℓ) (sf (sf τ3 65 0 T) 70 0 ℓ) (t3 + 1) (s3 + 1) → FIN N g π3 σ3 τ3 t3 s3 := fun hf => by
        refine fin_does (τ' := sf (sf τ3 65 0 T) 70 0 ℓ) (w := 23) (n := -1) hN (by omega) p4 ⟨h14.1, by omega⟩ m8.2 ⟨by rw [kt3.2]; exact sk2.1, by rw [kt3.1]; exact sk2.2⟩ (by rw [r_does]; simp only [fl_sf]; simp [m6.2.1, grd, i32]) ?_
        obtain ⟨a1, a2, a3, a4, a5, a6, a7, a8⟩ := hf
        exact ⟨a1, a2, a3, a4, a5, by rw [mk3]; exact a6, a7, a8⟩
      refine fend ?_
      obtain ⟨σ4, hσ4⟩ : ∃ σ4, σ4 = sf (se σ3 5 (base + P + j) r) 85 3 ℓ := ⟨_, rfl⟩
      obtain ⟨τ4, hτ4⟩ : ∃ τ4, τ4 = sf (sf τ3 65 0 T) 70 0 ℓ := ⟨_, rfl⟩
      rw [← hσ4, ← hτ4]
      have F4 : ∀ (f : Nat) i, ¬ (f = 85 ∧ i = 3) → fl σ4 f i = fl σ3 f i := fun f i h => by rw [hσ4, fl_sf, if_neg (by omega), fl_se]
      have E4 : ∀ a i : Int, ¬ (a = 5 ∧ i = base + P + j) → el σ4 a i = el σ3 a i := fun a i h => by rw [hσ4, el_sf, el_se, if_neg h]
      have E45 : el σ4 5 (base + P + j) = r := by rw [hσ4, el_sf, el_ses]
      have T4 : ∀ (f : Nat) i, f ≠ 65 → f ≠ 70 → fl τ4 f i = fl τ3 f i := fun f i h1 h2 => by rw [hτ4, fl_sfn _ _ _ _ h2, fl_sfn _ _ _ _ h1]
      have T4e : ∀ a i : Int, el τ4 a i = el τ3 a i := fun a i => by rw [hτ4]; rfl
      have hX4 : HX π3 σ3 π3 σ4 := HX.of ⟨fun f i hf => F4 f i (by unfold inF at hf; omega), fun a i ha => E4 a i (by omega)⟩
      have tx4 : TX τ3 τ4 := TX.eq (T4 48 0 (by decide) (by decide)) (T4 61 0 (by decide) (by decide)) (fun a i _ _ => T4e a i)
      have f4c : FC g π3 σ4 := ⟨m1.1, fun f i hi hx => by rw [F4 f i (by omega)]; exact m1.2.1 f i hi hx, fun a i ha hx => by rw [E4 a i (by omega)]; exact m1.2.2 a i ha hx⟩
      have f4r : FRr g τ4 := ⟨fun f i a1 a2 a3 a4 a5 a6 a7 a8 a9 a10 => by rw [T4 f i a6 a8]; exact m2.1 f i a1 a2 a3 a4 a5 a6 a7 a8 a9 a10, fun x i x1 x2 => (T4e x i).trans (m2.2.1 x i x1 x2), m2.2.2.tr tx4⟩
      have c64 : fl τ4 64 0 = fl τ3 64 0 := T4 64 0 (by decide) (by decide)
      have c61 : fl τ4 61 0 = fl τ3 61 0 := T4 61 0 (by decide) (by decide)
      have c48 : fl τ4 48 0 = fl τ3 48 0 := T4 48 0 (by decide) (by decide)
      have kp71 := p2.2.2.2.2.2.2.2.2.1 (by omega)
      refine hF π3 σ4 τ4 (t3 + 1) (s3 + 1) ⟨⟨f4c, f4r, m3, ⟨by rw [hσ4, fl_sfs], by rw [hτ4, fl_sfs], k6.2.2⟩, ⟨by rw [F4 87 3 (by omega), c64]; exact m7.1, by omega, by omega⟩, ⟨by rw [F4 88 3 (by omega)]; exact m8.1, by rw [T4 11 0 (by decide) (by decide)]; exact m8.2⟩, fun hl => by rw [F4 86 3 (by omega), T4 71 0 (by decide) (by decide)]; exact m86 (by omega), by omega, by omega, by omega, by omega, by omega⟩, ⟨(hX2.tr p2.1).tr hX4, (tx2.tr p2.2.1).tr tx4, fun i hi => ⟨?_, ?_⟩, fun i hi => ?_, fun i hi => ?_, fun i hi => ⟨?_, ?_⟩, fun i hi => ?_, fun i hi => ?_, fun hl => ⟨?_, ?_⟩, fun i h1 h2 => ?_⟩, ?_, by rw [hτ4, fl_sfn _ _ _ _ (by decide), fl_sfs], by rw [T4 68 0 (by decide) (by decide), p5]; rfl, ⟨?_, trivial⟩, fun x hx => absurd hx (by simp), by simp only [List.length_cons, List.length_nil]; omega, by omega, by omega⟩
      · rw [E4 6 i (by omega), (p2.2.2.1 i (by omega)).1, E2 6 i (by decide) (by omega) (by omega)]
      · rw [E4 7 i (by omega), (p2.2.2.1 i (by omega)).2, E2 7 i (by decide) (by omega) (by omega)]
      · rw [E4 8 i (by omega), p2.2.2.2.1 i (by omega), E2 8 i (by decide) (by omega) (by omega)]
      · rw [E4 5 i (by omega), p2.2.2.2.2.1 i (by omega), E25' i hi]
      · rw [T4e, (p2.2.2.2.2.2.1 i (by omega)).1, r11 55 i (by decide) (Or.inr hi)]; exact (rf0.2.2.1 i hi).1
      · rw [T4e, (p2.2.2.2.2.2.1 i (by omega)).2, r11 56 i (by decide) (Or.inr hi)]; exact (rf0.2.2.1 i hi).2
      · rw [T4e, p2.2.2.2.2.2.2.1 i hi, r11 54 i (by decide) (Or.inl ⟨by decide, by decide⟩)]; exact rf0.2.2.2.1 i hi
      · rw [T4e, p2.2.2.2.2.2.2.2.1 i (by omega), r12, if_neg (by omega)]; exact rf0.2.1 53 i (by decide) (by decide) (by decide) (by decide)
      · rw [T4 71 0 (by decide) (by decide), kp71.1, r5]; unfold spt; rw [k6.2.1, if_pos hl]
      · rw [F4 86 3 (by omega), kp71.2, G86]; unfold spt; rw [k6.2.1, if_pos hl]; exact (k86 hl).symm
      · rw [T4e, p2.2.2.2.2.2.2.2.2.2 i (by omega) (by omega), r11 84 i (by decide) (Or.inl ⟨by decide, by decide⟩)]; exact rf0.2.2.2.2 i h1 h2
      · rw [E4 8 ℓ (by omega), p2.2.2.2.1 ℓ (by omega), E28]; rfl
      · refine Or.inr ⟨⟨by omega, by omega⟩, by simp only [List.length_cons, List.length_nil]; omega, ?_, ?_⟩
        · rw [show base + (P + j) = base + P + j by omega, E45]; exact v3
        · rw [show base + (P + j) = base + P + j by omega, E45, T4e]; exact v2.grow hX4 tx4
end TU
