/-! a pattern is made: the reference tells the fault, or has it -/
def OPN (τ : St) (p K a b c d : Int) (l : List Kid) : Prop := p = fl τ 48 0 ∧ (0 ≤ p ∧ p < 103000) ∧ (el τ 70 p = K ∧ el τ 69 p = a ∧ el τ 68 p = b ∧ el τ 67 p = c ∧ el τ 66 p = d) ∧ (0 ≤ el τ 65 p ∧ el τ 64 p = l.length ∧ el τ 65 p + el τ 64 p ≤ 210000 ∧ el τ 65 p + el τ 64 p = fl τ 61 0) ∧ l.length ≤ 2000 ∧ At (KT τ) (el τ 65 p) l
def flt (τ τ' : St) (place x : Int) : Prop := fl τ' 11 0 = x ∧ fl τ' 12 0 = spt τ place ∧ fl τ' 64 0 = fl τ 64 0 ∧ fl τ' 48 0 = fl τ 48 0 ∧ fl τ' 68 0 = fl τ 68 0
def sucM (τ τ' : St) (p : Int) (B : Int × Int × Int × Int) (D : Int) : Prop := fl τ' 11 0 = 0 ∧ fl τ' 12 0 = fl τ 12 0 ∧ fl τ' 48 0 = p + 1 ∧ fl τ' 64 0 = fl τ 64 0 + 1 ∧ fl τ' 68 0 = fl τ 68 0 + 1 ∧ el τ' 54 (fl τ 68 0) = p ∧ (el τ' 63 p = B.1 ∧ el τ' 62 p = B.2.1 ∧ el τ' 61 p = B.2.2.1 ∧ el τ' 60 p = B.2.2.2 ∧ el τ' 59 p = D)
section MD2
variable {N : Nat}
theorem dpt_b {τ : St} {l : List Kid} (kok : ∀ k ∈ l, KOK τ k) : 1 ≤ dpt τ l ∧ dpt τ l ≤ 61 ∧ ∀ k ∈ l, el τ 59 k.1 < dpt τ l := by
  have m := mxK_ge (f := fun q => el τ 59 q) l 0
  have m' := mxK_le (f := fun q => el τ 59 q) (M := 60) l 0 (by omega) (fun k hk => (kok k hk).2.1.2)
  refine ⟨by unfold dpt; omega, by unfold dpt; omega, fun k hk => ?_⟩
  have : el τ 59 k.1 ≤ mxK (fun q => el τ 59 q) 0 l := m.2 k hk
  unfold dpt
  omega
theorem r_made' {τ : St} {p K a b c d place : Int} {l : List Kid} (hN : 300000 ≤ N) (h : OPN τ p K a b c d l) (hv : IV K a b c d l) (h11 : fl τ 11 0 = 0) (h64 : 0 ≤ fl τ 64 0 ∧ fl τ 64 0 ≤ 200) (h70 : i32 (fl τ 70 0)) (h68 : 0 ≤ fl τ 68 0 ∧ fl τ 68 0 < 20000) : ∃ τ', r_made N τ place = some τ' ∧ MK0 τ τ' ∧ (∀ x j, ¬ (59 ≤ x ∧ x ≤ 63 ∧ j = p) → ¬ (x = 54 ∧ j = fl τ 68 0) → el τ' x j = el τ x j) ∧ ((fl τ 64 0 = 200 ∧ flt τ τ' place 5) ∨ (fl τ 64 0 ≠ 200 ∧ xsB (bds τ K a b c d l) (dpt τ l) ≠ 0 ∧ flt τ τ' place (xsB (bds τ K a b c d l) (dpt τ l))) ∨ (fl τ 64 0 ≠ 200 ∧ xsB (bds τ K a b c d l) (dpt τ l) = 0 ∧ sucM τ τ' p (bds τ K a b c d l) (dpt τ l))) := by
  obtain ⟨hp, ⟨p0, p1⟩, ⟨e70, e69, e68, e67, e66⟩, ⟨k1, k2, k3, k4⟩, k5, k6⟩ := h
  have kok : ∀ k ∈ l, KOK τ k := At.all (P := fun x => KOK τ x) (fun _ _ hq => hq.2) k6
  have i64c : i32 (fl τ 64 0) := ⟨by omega, by omega⟩
  by_cases c200 : fl τ 64 0 = 200
  · refine ⟨sf (sf τ 11 0 5) 12 0 (spt τ place), ?_, fun f i a b _ _ _ _ => by rw [fl_sfn _ _ _ _ b, fl_sfn _ _ _ _ a], fun _ _ _ _ => rfl, Or.inl ⟨c200, rfl, rfl, rfl, rfl, rfl⟩⟩
    rw [r_made, r_spot' h70, Option.bind_some]
    show grd (i32 (fl τ 64 0)) (if fl τ 64 0 = 200 then _ else _) = _
    rw [grd_t i64c, if_pos c200, r_fail0 h11, Option.bind_some]
  · obtain ⟨τ1, g1, g2, g3⟩ := r_gather' (N := N) (p := p) (l := l) (by omega) ⟨p0, p1⟩ ⟨k1, k2, k3⟩ k5 k6
    obtain ⟨τ2, b1, b2, b3, b4, b5, b6, b7⟩ := r_boundsOf' (N := N) (τ0 := τ) (τ := τ1) hN ⟨p0, p1⟩ ⟨k1, k2, k3⟩ k5 k6 hv e70 e69 e68 e67 e66 g2 g3
    have s7 := g3.2.2.2.2.2.2
    have gf := g2.tr b2
    have f11 : fl τ2 11 0 = 0 := (gf.1 11 0 (by omega)).trans h11
    obtain ⟨n1, ⟨n2, n2'⟩, ⟨n3, n3'⟩, ⟨n4, n4'⟩, -⟩ := bds_nn hv kok k5
    obtain ⟨d1, d2, -⟩ := dpt_b kok
    have h79 : fl τ2 79 0 + 1 = dpt τ l := by rw [b7, s7]; rfl
    generalize hB : bds τ K a b c d l = B at b3 b4 b5 b6 n1 n2 n2' n3 n3' n4 n4'
    generalize hD : dpt τ l = D at h79 d1 d2
    have gv : 1 ≤ fl τ2 80 0 ∧ fl τ2 80 0 ≤ 1125899906842624 ∧ (1000000 < fl τ2 80 0 ↔ 1000000 < B.1) ∧ (¬ 1000000 < B.1 → fl τ2 80 0 = B.1) := by
      rcases b3 with ⟨x, y⟩ | ⟨x, y, z⟩
      · exact ⟨by omega, by omega, by omega, fun _ => y⟩
      · exact ⟨by omega, z, by omega, fun k => absurd x k⟩
    have hd : r_made N τ place = (if 1000000 < fl τ2 80 0 then Option.bind (r_fail N τ2 6 (spt τ place)) (fun r27 => r_made_140 N r27 p) else if 400 < B.2.1 then Option.bind (r_fail N τ2 7 (spt τ place)) (fun r27 => r_made_140 N r27 p) else if 64 < B.2.2.1 then Option.bind (r_fail N τ2 8 (spt τ place)) (fun r27 => r_made_140 N r27 p) else if 50000 < B.2.2.2 then Option.bind (r_fail N τ2 9 (spt τ place)) (fun r27 => r_made_140 N r27 p) else if 60 < D then Option.bind (r_fail N τ2 10 (spt τ place)) (fun r27 => r_made_140 N r27 p) else r_made_140 N τ2 p) := by
      rw [r_made, r_spot' h70, Option.bind_some]
      simp only
      rw [grd_t i64c, if_neg c200, ← hp, g1, Option.bind_some, b1, Option.bind_some, grd_t (by exact ⟨by omega, by omega⟩), b4, b5, b6, h79, grd_t (by exact ⟨by omega, by omega⟩), grd_t (by exact ⟨by omega, by omega⟩), grd_t (by exact ⟨by omega, by omega⟩), grd_t (by exact ⟨by omega, by omega⟩)]
    have bad : ∀ x : Int, x ≠ 0 → i32 x → Option.bind (r_fail N τ2 x (spt τ place)) (fun r27 => r_made_140 N r27 p) = some (sf (sf τ2 11 0 x) 12 0 (spt τ place)) := by
      intro x hx ix
      rw [r_fail0 f11, Option.bind_some, r_made_140]
      have e : fl (sf (sf τ2 11 0 x) 12 0 (spt τ place)) 11 0 = x := rfl
      rw [e, grd_t ix, if_neg hx]
    have badR : ∀ x : Int, x ≠ 0 → i32 x → xsB B D = x → r_made N τ place = some (sf (sf τ2 11 0 x) 12 0 (spt τ place)) → ∃ τ', r_made N τ place = some τ' ∧ MK0 τ τ' ∧ (∀ x j, ¬ (59 ≤ x ∧ x ≤ 63 ∧ j = p) → ¬ (x = 54 ∧ j = fl τ 68 0) → el τ' x j = el τ x j) ∧ ((fl τ 64 0 = 200 ∧ flt τ τ' place 5) ∨ (fl τ 64 0 ≠ 200 ∧ xsB B D ≠ 0 ∧ flt τ τ' place (xsB B D)) ∨ (fl τ 64 0 ≠ 200 ∧ xsB B D = 0 ∧ sucM τ τ' p B D)) := by
      intro x hx ix hxs hr
      refine ⟨_, hr, fun f i a b c d e g => ?_, fun y j _ _ => gf.2 y j, Or.inr (Or.inl ⟨c200, by omega, ?_⟩)⟩
      · rw [fl_sfn _ _ _ _ b, fl_sfn _ _ _ _ a, gf.1 f i g]
      · refine ⟨by rw [hxs]; rfl, rfl, ?_, ?_, ?_⟩
        · exact gf.1 64 0 (by omega)
        · exact gf.1 48 0 (by omega)
        · exact gf.1 68 0 (by omega)
    have xd : xsB B D = xs B.1 B.2.1 B.2.2.1 B.2.2.2 D := rfl
    unfold xs at xd
    by_cases c1 : 1000000 < B.1
    · rw [if_pos c1] at xd
      refine badR 6 (by decide) (by decide) xd ?_
      rw [hd, if_pos (gv.2.2.1.2 c1), bad 6 (by decide) (by decide)]
    · rw [if_neg c1] at xd
      rw [if_neg (fun k => c1 (gv.2.2.1.1 k))] at hd
      by_cases c2 : 400 < B.2.1
      · rw [if_pos c2] at xd
        refine badR 7 (by decide) (by decide) xd ?_
        rw [hd, if_pos c2, bad 7 (by decide) (by decide)]
      · rw [if_neg c2] at xd hd
        by_cases c3 : 64 < B.2.2.1
        · rw [if_pos c3] at xd
          refine badR 8 (by decide) (by decide) xd ?_
          rw [hd, if_pos c3, bad 8 (by decide) (by decide)]
        · rw [if_neg c3] at xd hd
          by_cases c4 : 50000 < B.2.2.2
          · rw [if_pos c4] at xd
            refine badR 9 (by decide) (by decide) xd ?_
            rw [hd, if_pos c4, bad 9 (by decide) (by decide)]
          · rw [if_neg c4] at xd hd
            by_cases c5 : 60 < D
            · rw [if_pos c5] at xd
              refine badR 10 (by decide) (by decide) xd ?_
              rw [hd, if_pos c5, bad 10 (by decide) (by decide)]
            · rw [if_neg c5] at xd hd
              have f48 : fl τ2 48 0 = p := (gf.1 48 0 (by omega)).trans hp.symm
              have f64 : fl τ2 64 0 = fl τ 64 0 := gf.1 64 0 (by omega)
              have f68 : fl τ2 68 0 = fl τ 68 0 := gf.1 68 0 (by omega)
              refine ⟨sf (se (sf (sf (se (se (se (se (se τ2 63 p (fl τ2 80 0)) 62 p (fl τ2 81 0)) 61 p (fl τ2 82 0)) 60 p (fl τ2 83 0)) 59 p ((fl τ2 79 0) + 1)) 48 0 ((fl τ2 48 0) + 1)) 64 0 ((fl τ2 64 0) + 1)) 54 (fl τ2 68 0) p) 68 0 (fl τ2 68 0 + 1), ?_, fun f i a b c d e g => ?_, fun y j h1 h2 => ?_, Or.inr (Or.inr ⟨c200, xd, ?_⟩)⟩
              · rw [hd, r_made_140, f11, grd_t (by decide), if_pos rfl, grd_t (by exact ⟨p0, p1⟩), bnd, r_push]
                have e : fl (sf (sf (se (se (se (se (se τ2 63 p (fl τ2 80 0)) 62 p (fl τ2 81 0)) 61 p (fl τ2 82 0)) 60 p (fl τ2 83 0)) 59 p ((fl τ2 79 0) + 1)) 48 0 ((fl τ2 48 0) + 1)) 64 0 ((fl τ2 64 0) + 1)) 68 0 = fl τ2 68 0 := rfl
                rw [e, grd_t (by rw [f68]; exact ⟨by omega, by omega⟩), Option.bind_some]
              · rw [fl_sfn _ _ _ _ e, fl_se, fl_sfn _ _ _ _ d, fl_sfn _ _ _ _ c]
                exact gf.1 f i g
              · rw [el_sf]
                simp only [el_se, el_sf]
                rw [f68, if_neg h2, if_neg (by omega), if_neg (by omega), if_neg (by omega), if_neg (by omega), if_neg (by omega)]
                exact gf.2 y j
              · refine ⟨f11, gf.1 12 0 (by omega), ?_, ?_, ?_, ?_, ?_, ?_, ?_, ?_, ?_⟩
                · show fl τ2 48 0 + 1 = _
                  rw [f48]
                · show fl τ2 64 0 + 1 = _
                  rw [f64]
                · rw [fl_sfs, f68]
                · rw [f68, el_sf, el_ses]
                · rw [el_sf]
                  simp only [el_se, el_sf]
                  show fl τ2 80 0 = _
                  exact gv.2.2.2 c1
                · rw [el_sf]
                  simp only [el_se, el_sf]
                  exact b4
                · rw [el_sf]
                  simp only [el_se, el_sf]
                  exact b5
                · rw [el_sf]
                  simp only [el_se, el_sf]
                  exact b6
                · rw [el_sf]
                  simp only [el_se, el_sf]
                  exact h79
end MD2
