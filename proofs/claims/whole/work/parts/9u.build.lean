/-! a pattern is made: the class, to its end -/
section CB3
variable {N : Nat}
theorem nn_nA (π : Sh) (t : Nat) (n : Int) : nn (nA π t n) = nn π + 1 := rfl
theorem nn_nO (π : Sh) (c w : Nat) : nn (nO π c w) = nn π + 1 := rfl
theorem tg_nA (π : Sh) (t : Nat) (n : Int) : tg (nA π t n) (nn π) = 20 + t := if_pos rfl
theorem ln_nA (π : Sh) (t : Nat) (n : Int) : ln (nA π t n) (nn π) = n := if_pos rfl
theorem tg_nO (π : Sh) (c w : Nat) : tg (nO π c w) (nn π) = c := if_pos rfl
theorem NW.nA {π : Sh} {σ : St} (t : Nat) (n v : Int) : NW π σ (nA π t n) (zA σ (nn π) v) := ⟨ext_nA _ _ _, fun _ _ _ _ => rfl, fun a j ha => by show (if a = nn π then v else el σ a j) = _; rw [if_neg (by omega)]⟩
theorem NW.nO {π : Sh} {σ : St} (c w : Nat) (d : Nat → Int) : NW π σ (nO π c w) (zO σ (nn π) d) := ⟨ext_nO _ _ _, fun f i hi _ => by show (if i = nn π then d f else fl σ f i) = _; rw [if_neg (by omega)], fun _ _ _ => rfl⟩
/-- what a build comes to -/
def BLD (π : Sh) (σ τ : St) (s x2 : Int) (bs : Int) (ks : List Kid) (B : Int × Int × Int × Int) (D : Int) (x : Option (Sh × St × Int)) : Prop :=
  (200 ≤ fl σ 87 3 + bs ∧ ∃ σ', x = some (π, σ', -1) ∧ NW π σ π σ' ∧ fl σ' 87 3 = 200 ∧ fl σ' 88 3 = 5 ∧ fl σ' 89 3 = x2) ∨
  (fl σ 87 3 + bs < 200 ∧ ∃ π' σ', NW π σ π' σ' ∧ nn π' ≤ nn π + 2 ∧ sw π' ≤ sw π + (7 + ks.length) ∧ ((xsB B D ≠ 0 ∧ x = some (π', σ', -1) ∧ fl σ' 87 3 = fl σ 87 3 + bs ∧ fl σ' 88 3 = xsB B D ∧ fl σ' 89 3 = x2) ∨
    (xsB B D = 0 ∧ ∃ r A, x = some (π', σ', r) ∧ fl σ' 87 3 = fl σ 87 3 + bs + 1 ∧ fl σ' 88 3 = fl σ 88 3 ∧ ob π' r 5 ∧ nn π ≤ r ∧ fl σ' 100 r = s ∧ fl σ' 101 r = A ∧ (ob π' A 26 ∧ ln π' A = ks.length ∧ (56 ≤ A ∨ ks = [])) ∧ At (fun j (k : Kid) => PRn π σ τ (el σ' A j) k.1 ∧ ob π (el σ' A j) 5) 0 ks ∧ fl σ' 102 r = B.1 ∧ fl σ' 103 r = B.2.1 ∧ fl σ' 104 r = B.2.2.1 ∧ fl σ' 105 r = B.2.2.2 ∧ fl σ' 106 r = D)))
theorem c_build {π : Sh} {σ τ : St} {s x2 K place a b c d cnt : Int} {ops ks : List Kid} (hN : 3000 ≤ N) (hS : SHs π) (hs : SRq π σ s K place a b c d cnt ops) (lv : 0 ≤ fl σ 85 3 ∧ fl σ 85 3 < 13) (hO : OPR π σ τ ops ks) (hv : IV K a b c d ks) (hC : 0 ≤ fl σ 87 3 ∧ fl σ 87 3 ≤ 200) (h88 : fl σ 88 3 = 0) : BLD π σ τ s x2 (bsd cnt ops.length) ks (bds τ K a b c d ks) (dpt τ ks) (Mk_build N π σ s x2) := by
  obtain ⟨s1, s2, s3, ⟨s4, s4'⟩, s5, s6, s7, s8, s9, s10, s11⟩ := id hs
  have n56 := hS.1
  have le := hO.len
  have sl := s1.2.1
  have s3' : s ≠ 3 := fun e => by
    have h4 : tg π 3 = 4 := (hS.ob (i := 3) (t := 4) (n := 0) (by decide) rfl).2.2
    have h10 := s1.2.2
    rw [e] at h10
    exact absurd (h10.symm.trans h4) (by decide)
  have bb : 0 ≤ bsd cnt ops.length ∧ bsd cnt ops.length ≤ 2000 := by unfold bsd; split <;> omega
  have besides : Sp_besides N π σ s = some (σ, bsd cnt ops.length) := by
    rw [Sp_besides, grd_t s1, s4, grd_t (by rcases s4' with h | h <;> rw [h] <;> decide), bsd]
    by_cases c0 : cnt = 0
    · rw [if_pos c0, if_pos c0]
    · rw [if_neg c0, if_neg c0, s5, grd_t (by exact ⟨by omega, by omega⟩)]
  have hd : ∀ X, (if fl σ 87 3 + bsd cnt ops.length < 200 then (if (ops.length : Int) = 0 then Mk_build_58 N π (sf σ 87 3 (fl σ 87 3 + bsd cnt ops.length)) s x2 4 else Mk_build_58 N (nA π 6 ops.length) (zA (sf σ 87 3 (fl σ 87 3 + bsd cnt ops.length)) (nn π) (-1)) s x2 (nn π)) else some (π, sf (sf (sf σ 87 3 200) 88 3 5) 89 3 x2, -1)) = X → Mk_build N π σ s x2 = X := by
    intro X hX
    rw [← hX, Mk_build, besides, Option.bind_some, grd_t s1, bnd, grd_t (by exact ⟨by simp only; omega, by simp only; omega⟩)]
    simp only
    rw [s5, grd_t (by exact ⟨by omega, by omega⟩), bnd, grd_t (by omega), grd_t (by omega)]
    rfl
  by_cases c200 : fl σ 87 3 + bsd cnt ops.length < 200
  · right
    refine ⟨c200, ?_⟩
    -- the array of its kids
    have kok : ∀ k ∈ ks, KOK τ k := by
      have : ∀ (os ks : List Kid), OPR π σ τ os ks → ∀ k ∈ ks, KOK τ k := by
        intro os
        induction os with
        | nil =>
          intro ks h k hk
          cases ks with
          | nil => cases hk
          | cons _ _ => exact h.elim
        | cons o os ih =>
          intro ks h k hk
          cases ks with
          | nil => cases hk
          | cons k' ks =>
            obtain ⟨⟨-, r, -, -, h1⟩, h2⟩ := h
            rcases List.mem_cons.1 hk with rfl | hk
            · exact h1
            · exact ih ks h2 k hk
      exact this ops ks hO
    obtain ⟨π1, σ1, A, nw1, hA, hA2, f1, x1, b1, b2⟩ : ∃ (π1 : Sh) (σ1 : St) (A : Int), NW π σ π1 σ1 ∧ (ops ≠ [] → ob π1 A 26 ∧ ln π1 A = ops.length ∧ nn π ≤ A) ∧ (ob π1 A 26 ∧ ln π1 A = ops.length ∧ (56 ≤ A ∨ ks = []) ∧ A < nn π1) ∧ (fl σ1 87 3 = fl σ 87 3 + bsd cnt ops.length ∧ ∀ (f : Nat) (i : Int), ¬ (f = 87 ∧ i = 3) → fl σ1 f i = fl σ f i) ∧ Mk_build N π σ s x2 = Mk_build_58 N π1 σ1 s x2 A ∧ nn π1 ≤ nn π + 1 ∧ sw π1 ≤ sw π + ks.length := by
      by_cases c0 : (ops.length : Int) = 0
      · have o0 : ops = [] := List.length_eq_zero_iff.1 (by omega)
        have k0 : ks = [] := List.length_eq_zero_iff.1 (by omega)
        refine ⟨π, sf σ 87 3 (fl σ 87 3 + bsd cnt ops.length), 4, ⟨ext.rf _, fun f i hi hf => by rw [fl_sf, if_neg (by omega)], fun _ _ _ => rfl⟩, fun h => absurd o0 h, ⟨hS.ob (i := 4) (by decide) rfl, by rw [c0]; exact hS.ln (i := 4) (t := 26) (by decide) rfl, Or.inr k0, by omega⟩, ⟨fl_sfs _ _ _ _, fun f i hf => by rw [fl_sf, if_neg hf]⟩, hd _ (by rw [if_pos c200, if_pos c0]), by omega, by omega⟩
      · refine ⟨nA π 6 ops.length, zA (sf σ 87 3 (fl σ 87 3 + bsd cnt ops.length)) (nn π) (-1), nn π, ?_, fun _ => ⟨⟨by omega, by rw [nn_nA]; omega, tg_nA _ _ _⟩, ln_nA _ _ _, Int.le_refl _⟩, ⟨⟨by omega, by rw [nn_nA]; omega, tg_nA _ _ _⟩, ln_nA _ _ _, Or.inl (by omega), by rw [nn_nA]; omega⟩, ⟨by show fl (sf σ 87 3 _) 87 3 = _; exact fl_sfs _ _ _ _, fun f i hf => by show fl (sf σ 87 3 _) f i = _; rw [fl_sf, if_neg hf]⟩, hd _ (by rw [if_pos c200, if_neg c0]), by rw [nn_nA]; omega, ?_⟩
        · exact NW.tr (π1 := π) (σ1 := sf σ 87 3 (fl σ 87 3 + bsd cnt ops.length)) ⟨ext.rf _, fun f i hi hf => by rw [fl_sf, if_neg (by omega)], fun _ _ _ => rfl⟩ (NW.nA _ _ _)
        · show sw π + (ops.length : Int).toNat ≤ _
          omega
    obtain ⟨σ2, q1, q2, q3, q4, q5⟩ := c_fill (N := N) (τ := τ) (σ0 := σ) (π0 := π) (π := π1) (A := A) (x2 := x2) hS hs lv ops ks N σ1 0 [] (by omega) nw1 hA s11 hO (Int.le_refl _) (by omega) rfl trivial
    rw [List.nil_append] at q5
    -- the new pattern
    have nw3 : NW π σ (nO π1 5 7) (zO σ2 (nn π1) dfl) := q2.tr (NW.nO _ _ _)
    have rN : (nn π : Int) ≤ nn π1 := by have := q2.1.1; omega
    have ro : ob (nO π1 5 7) (nn π1) 5 := ⟨by omega, by rw [nn_nO]; omega, tg_nO _ _ _⟩
    have As : A ≠ nn π1 := by have := hA2.2.2.2; omega
    obtain ⟨σ3, hσ3⟩ : ∃ σ3, σ3 = sf (sf (sf (sf (sf (sf (sf (zO σ2 (nn π1) dfl) 102 (nn π1) 1) 103 (nn π1) 0) 104 (nn π1) 1) 105 (nn π1) 1) 106 (nn π1) 1) 100 (nn π1) s) 101 (nn π1) A := ⟨_, rfl⟩
    have i1 : Pt_init N (nO π1 5 7) (zO σ2 (nn π1) dfl) (nn π1) s A = some σ3 := by rw [Pt_init, grd_t ro, hσ3]
    have f3 : ∀ (f : Nat) (i : Int), i < nn π1 → fl σ3 f i = fl σ2 f i := fun f i hi => by
      rw [hσ3]
      simp only [fl_sf]
      rw [if_neg (by omega), if_neg (by omega), if_neg (by omega), if_neg (by omega), if_neg (by omega), if_neg (by omega), if_neg (by omega)]
      show (if i = nn π1 then dfl f else fl σ2 f i) = _
      rw [if_neg (by omega)]
    have e3 : ∀ x j, el σ3 x j = el σ2 x j := fun x j => by rw [hσ3]; rfl
    have f100 : fl σ3 100 (nn π1) = s := by rw [hσ3, fl_sfn _ _ _ _ (by decide), fl_sfs]
    have f101 : fl σ3 101 (nn π1) = A := by rw [hσ3, fl_sfs]
    have f106 : fl σ3 106 (nn π1) = 0 + 1 := by rw [hσ3, fl_sfn _ _ _ _ (by decide), fl_sfn _ _ _ _ (by decide), fl_sfs]; rfl
    have nw4 : NW π σ (nO π1 5 7) σ3 := ⟨nw3.1, fun f i hi hf => by rw [f3 f i (by omega)]; exact q2.2.1 f i hi hf, fun x j hx => by rw [e3]; exact q2.2.2 x j hx⟩
    have hk := s2.cg hO
    have hk3 : CKx (nO π1 5 7) σ3 s K a b c d ks := by
      obtain ⟨x1, x2, x3, x4, x5, x6, x7, x8⟩ := hk
      have f : ∀ g : Nat, fl σ3 g s = fl σ g s := fun g => nw4.2.1 g s sl (fun hh => s3' hh.1)
      unfold CKx
      rw [f 200, f 202, f 203, f 204, f 205, f 207, f 212]
      refine ⟨x1, x2, x3, x4, x5, x6, fun hc => ?_, x8⟩
      obtain ⟨⟨y1, y1', y1''⟩, ⟨y2, y2', y2'', y2'''⟩, ⟨y3, y3', y3''⟩, y4, y5⟩ := x7 hc
      unfold WAx
      rw [f 211, f 212, f 213, (nw4.1.2.2 _ y1.2.1).2, (nw4.1.2.2 _ y2.2.1).2, (nw4.1.2.2 _ y3.2.1).2]
      refine ⟨⟨y1.ext nw4.1, y1', y1''⟩, ⟨y2.ext nw4.1, y2', y2'', y2'''⟩, ⟨y3.ext nw4.1, y3', y3''⟩, y4.mono (fun i k _ _ _ hk => ?_), fun i i0 i1 => ?_⟩
      · rw [nw4.2.2 _ _ y1.2.1, nw4.2.2 _ _ y2.2.1]; exact hk
      · rw [nw4.2.2 _ _ y3.2.1]; exact y5 i i0 i1
    have np : NP (nO π1 5 7) σ3 τ (nn π1) s A ks := by
      refine ⟨ro, f100, f101, s1.ext nw4.1, hA2.1.ext (ext_nO _ _ _), ?_, by omega, q5.mono (fun i k i0 i1 _ hq => ?_), hk3.rp hv⟩
      · rw [((ext_nO π1 5 7).2.2 A hA2.2.2.2).2, hA2.2.1, le]
      · obtain ⟨h1, h2, h3⟩ := hq
        have kl := h1.2.1
        unfold KQ
        rw [e3]
        have kb : fl σ 102 (el σ2 A i) = gr τ k.1 ∧ fl σ 103 (el σ2 A i) = cw τ k.1 ∧ fl σ 104 (el σ2 A i) = rc τ k.1 ∧ fl σ 105 (el σ2 A i) = wk τ k.1 ∧ fl σ 106 (el σ2 A i) = el τ 59 k.1 := by
          rcases h2.b with hb | ⟨-, -, -, ⟨z1, -⟩, ⟨z2, -⟩, ⟨z3, -⟩, ⟨z4, -⟩, z5, -⟩
          · have := h1.1
            omega
          · exact ⟨z1, z2, z3, z4, z5⟩
        rw [nw4.2.1 102 _ kl (by omega), nw4.2.1 103 _ kl (by omega), nw4.2.1 104 _ kl (by omega), nw4.2.1 105 _ kl (by omega), nw4.2.1 106 _ kl (by omega)]
        exact ⟨h1.ext nw4.1, kb, h3⟩
    have hne : ∀ i : Int, 0 ≤ i → i < ks.length → el σ3 A i ≠ nn π1 := fun i i0 i1 => by
      obtain ⟨k, -, hk, -⟩ := At.both q5 q5 i i0 (by omega)
      have := hk.1.2.1
      rw [e3]
      omega
    obtain ⟨σ4, m1, m2, m3, m4, m5, m6, m7⟩ := c_meas_lp (N := N) (π := nO π1 5 7) (τ := τ) (r := nn π1) (s := s) (A := A) hN hv ks N 0 0 σ3 (by omega) np hk3 hne np.2.2.2.2.2.2.2.1 (Int.le_refl _) (by omega) f106 (by omega) (by omega)
    obtain ⟨n1, n2, n3, n4, n5⟩ := bds_nn hv kok (by omega)
    obtain ⟨d1, d2, -⟩ := dpt_b kok
    have ex := c_excess (N := N) ro rfl m3 n1 m4 m5 m6 (show fl σ4 106 (nn π1) = dpt τ ks from m7) n2 n3 n4 ⟨d1, d2⟩
    have nw5 : ∀ (f : Nat) (i : Int), i < nn π → fl σ4 f i = fl σ1 f i := fun f i hi => by rw [m2.1 f i (by omega), f3 f i (by omega), q3]
    have e5 : ∀ x j, el σ4 x j = el σ2 x j := fun x j => by rw [m2.2, e3]
    have hx : Mk_build N π σ s x2 = (if xsB (bds τ K a b c d ks) (dpt τ ks) = 0 then some (nO π1 5 7, sf σ4 87 3 ((fl σ4 87 3) + 1), (nn π1 : Int)) else some (nO π1 5 7, sf (sf σ4 88 3 (xsB (bds τ K a b c d ks) (dpt τ ks))) 89 3 x2, -1)) := by
      rw [x1, Mk_build_58, q1, Mk_build_97, i1, Option.bind_some, grd_t ro, Pt_measure, m1, Option.bind_some, ex, Option.bind_some]
      simp only
      have ix : i32 (xs (bds τ K a b c d ks).1 (bds τ K a b c d ks).2.1 (bds τ K a b c d ks).2.2.1 (bds τ K a b c d ks).2.2.2 (dpt τ ks)) := by unfold xs; (repeat' split) <;> decide
      rw [grd_t ix, ex, Option.bind_some]
      rfl
    have f87 : fl σ4 87 3 = fl σ 87 3 + bsd cnt ops.length := by rw [nw5 87 3 (by omega)]; exact f1.1
    have f88 : fl σ4 88 3 = fl σ 88 3 := by rw [nw5 88 3 (by omega)]; exact f1.2 88 3 (by omega)
    have sw' : sw (nO π1 5 7) ≤ sw π + (7 + ks.length) := by show sw π1 + 7 ≤ _; omega
    by_cases cx : xsB (bds τ K a b c d ks) (dpt τ ks) = 0
    · rw [if_pos cx] at hx
      have G0 : (bds τ K a b c d ks).1 ≤ 1000000 := by
        have : xs (bds τ K a b c d ks).1 (bds τ K a b c d ks).2.1 (bds τ K a b c d ks).2.2.1 (bds τ K a b c d ks).2.2.2 (dpt τ ks) = 0 := cx
        unfold xs at this
        split at this
        · exact absurd this (by decide)
        · omega
      refine ⟨nO π1 5 7, sf σ4 87 3 (fl σ4 87 3 + 1), ⟨nw4.1, fun f i hi hf => ?_, fun x j hx => by rw [el_sf, e5]; exact q2.2.2 x j hx⟩, by rw [nn_nO]; omega, sw', Or.inr ⟨cx, nn π1, A, hx, by rw [fl_sfs, f87], by rw [fl_sfn _ _ _ _ (by decide), f88], ro, rN, ?_, ?_, ⟨hA2.1.ext (ext_nO _ _ _), np.2.2.2.2.2.1, hA2.2.2.1⟩, ?_, ?_, ?_, ?_, ?_, ?_⟩⟩
      · rw [fl_sf, if_neg (by omega), nw5 f i hi]; exact f1.2 f i (by omega)
      · rw [fl_sfn _ _ _ _ (by decide), m2.1 100 _ (by omega)]; exact f100
      · rw [fl_sfn _ _ _ _ (by decide), m2.1 101 _ (by omega)]; exact f101
      · exact q5.mono (fun i k _ _ _ hq => by rw [el_sf, e5]; exact ⟨hq.2.1, hq.1⟩)
      · rw [fl_sfn _ _ _ _ (by decide)]
        rcases m3 with ⟨-, h⟩ | ⟨h, -⟩
        · exact h
        · omega
      · rw [fl_sfn _ _ _ _ (by decide)]; exact m4
      · rw [fl_sfn _ _ _ _ (by decide)]; exact m5
      · rw [fl_sfn _ _ _ _ (by decide)]; exact m6
      · rw [fl_sfn _ _ _ _ (by decide)]; exact m7
    · rw [if_neg cx] at hx
      refine ⟨nO π1 5 7, sf (sf σ4 88 3 (xsB (bds τ K a b c d ks) (dpt τ ks))) 89 3 x2, ⟨nw4.1, fun f i hi hf => ?_, fun x j hx => by rw [el_sf, el_sf, e5]; exact q2.2.2 x j hx⟩, by rw [nn_nO]; omega, sw', Or.inl ⟨cx, hx, ?_, ?_, fl_sfs _ _ _ _⟩⟩
      · rw [fl_sf, if_neg (by omega), fl_sf, if_neg (by omega), nw5 f i hi]; exact f1.2 f i (by omega)
      · rw [fl_sfn _ _ _ _ (by decide), fl_sfn _ _ _ _ (by decide), f87]
      · rw [fl_sfn _ _ _ _ (by decide), fl_sfs]
  · left
    refine ⟨by omega, sf (sf (sf σ 87 3 200) 88 3 5) 89 3 x2, hd _ (by rw [if_neg c200]), ⟨ext.rf _, fun f i hi hf => ?_, fun _ _ _ => rfl⟩, rfl, rfl, rfl⟩
    rw [fl_sf, fl_sf, fl_sf, if_neg (by omega), if_neg (by omega), if_neg (by omega)]
end CB3
