/-! a function with what it wants: the piece in the making -/
/-- what is wanted, as a number -/
def nuw : List Int → Int
  | [] => 0
  | w :: r => w * 10 ^ r.length + nuw r
section WA9
variable {N : Nat} {b : Bse} {Xo : Int → Prop} {dl : List (Int × Int)}
/-- the next wish of the reference -/
theorem rw33 {τ : St} {dw n w : Int} {r : List Int} (hd : 0 ≤ dw ∧ dw < 600) (h71 : el τ 71 dw = nuw (w :: r)) (hw : 1 ≤ w ∧ w ≤ 4) (hr : ∀ x ∈ r, 1 ≤ x ∧ x ≤ 4) (hl : r.length ≤ 3) : r_readWants_33 N τ dw n = if w = 1 then r_readFraction N (se τ 71 dw (nuw r)) n else if w = 2 then r_readCount N (se τ 71 dw (nuw r)) n else if w = 3 then r_begin N (se (se τ 71 dw (nuw r)) 72 dw 1) 7 (-1) 0 else r_begin N (se (se τ 71 dw (nuw r)) 72 dw 1) 5 (-1) 0 := by
  have bindid : ∀ q : Option St, Option.bind q (fun r53 => some r53) = q := fun q => by cases q <;> rfl
  have key : ∀ p : Int, (p = 1 ∨ p = 10 ∨ p = 100 ∨ p = 1000) → Int.tdiv (nuw (w :: r)) p = w → Int.tmod (nuw (w :: r)) p = nuw r → i32 (nuw (w :: r)) → r_readWants_86 N τ dw n (nuw (w :: r)) p = if w = 1 then r_readFraction N (se τ 71 dw (nuw r)) n else if w = 2 then r_readCount N (se τ 71 dw (nuw r)) n else if w = 3 then r_begin N (se (se τ 71 dw (nuw r)) 72 dw 1) 7 (-1) 0 else r_begin N (se (se τ 71 dw (nuw r)) 72 dw 1) 5 (-1) 0 := by
    intro p hp h1 h2 h3
    rw [r_readWants_86, grd_t h3, grd_t (by exact ⟨by omega, by omega⟩), grd_t (by omega)]
    simp only [bnd]
    rw [h1, h2, grd_t (by exact ⟨hd.1, hd.2⟩), grd_t (by exact ⟨by omega, by omega⟩), bindid, bindid, r_readWants_152, r_readWants_152, bindid, bindid]
  have top : nuw (w :: r) ≠ 0 → i32 (nuw (w :: r)) → r_readWants_33 N τ dw n = if (999 : Int) < nuw (w :: r) then r_readWants_86 N τ dw n (nuw (w :: r)) 1000 else if (99 : Int) < nuw (w :: r) then r_readWants_86 N τ dw n (nuw (w :: r)) 100 else if (9 : Int) < nuw (w :: r) then r_readWants_86 N τ dw n (nuw (w :: r)) 10 else r_readWants_86 N τ dw n (nuw (w :: r)) 1 := by
    intro h1 h2
    rw [r_readWants_33, grd_t (by exact ⟨hd.1, hd.2⟩)]
    simp only [bnd]
    rw [h71, grd_t h2, if_neg h1]
  match r, hl, hr with
  | [], _, _ =>
    have e : nuw [w] = w := by show w * 10 ^ 0 + 0 = w; omega
    have e0 : nuw [] = 0 := rfl
    have dv : Int.tdiv w 1 = w := Int.tdiv_one w
    have md : Int.tmod w 1 = 0 := Int.tmod_one w
    rw [top (by rw [e]; omega) (by rw [e]; exact ⟨by omega, by omega⟩), if_neg (by rw [e]; omega), if_neg (by rw [e]; omega), if_neg (by rw [e]; omega)]
    exact key 1 (Or.inl rfl) (by rw [e]; exact dv) (by rw [e, e0]; exact md) (by rw [e]; exact ⟨by omega, by omega⟩)
  | [x], _, hr =>
    have x1 := hr x (by simp)
    have e : nuw [w, x] = w * 10 + x := by show w * 10 ^ 1 + (x * 10 ^ 0 + 0) = _; omega
    have e0 : nuw [x] = x := by show x * 10 ^ 0 + 0 = x; omega
    rw [top (by rw [e]; omega) (by rw [e]; exact ⟨by omega, by omega⟩), if_neg (by rw [e]; omega), if_neg (by rw [e]; omega), if_pos (by rw [e]; omega)]
    exact key 10 (by omega) (by rw [e, Int.tdiv_eq_ediv_of_nonneg (by omega)]; omega) (by rw [e, e0, Int.tmod_eq_emod_of_nonneg (by omega)]; omega) (by rw [e]; exact ⟨by omega, by omega⟩)
  | [x, y], _, hr =>
    have x1 := hr x (by simp)
    have y1 := hr y (by simp)
    have e : nuw [w, x, y] = w * 100 + x * 10 + y := by show w * 10 ^ 2 + (x * 10 ^ 1 + (y * 10 ^ 0 + 0)) = _; omega
    have e0 : nuw [x, y] = x * 10 + y := by show x * 10 ^ 1 + (y * 10 ^ 0 + 0) = _; omega
    rw [top (by rw [e]; omega) (by rw [e]; exact ⟨by omega, by omega⟩), if_neg (by rw [e]; omega), if_pos (by rw [e]; omega)]
    exact key 100 (by omega) (by rw [e, Int.tdiv_eq_ediv_of_nonneg (by omega)]; omega) (by rw [e, e0, Int.tmod_eq_emod_of_nonneg (by omega)]; omega) (by rw [e]; exact ⟨by omega, by omega⟩)
  | [x, y, z], _, hr =>
    have x1 := hr x (by simp)
    have y1 := hr y (by simp)
    have z1 := hr z (by simp)
    have e : nuw [w, x, y, z] = w * 1000 + x * 100 + y * 10 + z := by show w * 10 ^ 3 + (x * 10 ^ 2 + (y * 10 ^ 1 + (z * 10 ^ 0 + 0))) = _; omega
    have e0 : nuw [x, y, z] = x * 100 + y * 10 + z := by show x * 10 ^ 2 + (y * 10 ^ 1 + (z * 10 ^ 0 + 0)) = _; omega
    rw [top (by rw [e]; omega) (by rw [e]; exact ⟨by omega, by omega⟩), if_pos (by rw [e]; omega)]
    exact key 1000 (by omega) (by rw [e, Int.tdiv_eq_ediv_of_nonneg (by omega)]; omega) (by rw [e, e0, Int.tmod_eq_emod_of_nonneg (by omega)]; omega) (by rw [e]; exact ⟨by omega, by omega⟩)
  | _ :: _ :: _ :: _ :: _, hl, _ => exact absurd hl (by simp)
theorem rw33_0 {τ : St} {dw n : Int} (hd : 0 ≤ dw ∧ dw < 600) (h71 : el τ 71 dw = 0) : r_readWants_33 N τ dw n = some (sf (sf τ 46 0 n) 41 0 (fl τ 41 0 - 1)) := by
  rw [r_readWants_33, grd_t (by exact ⟨hd.1, hd.2⟩)]
  simp only [bnd]
  rw [h71, grd_t (by decide), if_pos rfl, r_finish', Option.bind_some]
/-- a piece is made -/
theorem pc_new {π : Sh} {σ : St} {kd place : Int} : ∃ π1 σ1, Pc_init N (nO π 6 11) (zO σ (nn π) dfl) (nn π) kd place = some (π1, σ1) ∧ ob (nO π 6 11) (nn π) 6 ∧ FRn (nn π) π σ π1 σ1 ∧ nn π1 = nn π + 2 ∧ sw π1 = sw π + 14 ∧ PCf π1 σ1 (nn π) kd place 0 0 0 0 ∧ PCa π1 σ1 (nn π) [] ∧ (fl σ1 126 (nn π) = -1 ∧ fl σ1 127 (nn π) = -1 ∧ fl σ1 128 (nn π) = -1) ∧ fl σ1 129 (nn π) = nn π + 1 := by
  obtain ⟨s, hs⟩ : ∃ s : Int, s = nn π := ⟨_, rfl⟩
  have o1 : ob (nO π 6 11) s 6 := by rw [hs]; exact ob_nO π 6 11
  have o2 : ob (nA (nO π 6 11) 2 3) s 6 := o1.ext (ext_nA _ _ _)
  have n1 : nn (nO π 6 11) = nn π + 1 := nn_nO π 6 11
  have a1 : ob (nA (nO π 6 11) 2 3) (nn (nO π 6 11)) 22 := ob_nA (nO π 6 11) 2 3
  rw [← hs]
  have e : Pc_init N (nO π 6 11) (zO σ s dfl) s kd place = some (nA (nO π 6 11) 2 3, sf (sf (sf (sf (zA (sf (sf (sf (sf (sf (sf (sf (zO σ s dfl) 122 s 0) 123 s 0) 124 s 0) 125 s 0) 126 s (-1)) 127 s (-1)) 128 s (-1)) (nn (nO π 6 11)) 0) 129 s (nn (nO π 6 11))) 130 s 0) 120 s kd) 121 s place) := by
    rw [Pc_init, grd_t o1]
    simp only [bnd]
    rw [Pc_init_43, grd_t o2, grd_t o2]
  obtain ⟨σ1, hσ1⟩ : ∃ σ1, σ1 = sf (sf (sf (sf (zA (sf (sf (sf (sf (sf (sf (sf (zO σ s dfl) 122 s 0) 123 s 0) 124 s 0) 125 s 0) 126 s (-1)) 127 s (-1)) 128 s (-1)) (nn (nO π 6 11)) 0) 129 s (nn (nO π 6 11))) 130 s 0) 120 s kd) 121 s place := ⟨_, rfl⟩
  rw [← hσ1] at e
  have hf : ∀ (f : Nat) (i : Int), i ≠ s → fl σ1 f i = fl σ f i := fun f i hi => by
    rw [hσ1]
    simp only [fl_sf, fl_zA, fl_zO]
    rw [if_neg (by omega), if_neg (by omega), if_neg (by omega), if_neg (by omega), if_neg (by omega), if_neg (by omega), if_neg (by omega), if_neg (by omega), if_neg (by omega), if_neg (by omega), if_neg (by omega), if_neg (by omega)]
  have gs : fl σ1 120 s = kd ∧ fl σ1 121 s = place ∧ fl σ1 122 s = 0 ∧ fl σ1 123 s = 0 ∧ fl σ1 124 s = 0 ∧ fl σ1 125 s = 0 ∧ fl σ1 126 s = -1 ∧ fl σ1 127 s = -1 ∧ fl σ1 128 s = -1 ∧ fl σ1 129 s = nn (nO π 6 11) ∧ fl σ1 130 s = 0 := by
    rw [hσ1]
    simp only [fl_sf, fl_zA]
    simp
  obtain ⟨g0, g1, g2, g3, g4, g5, g6, g7, g8, g9, g10⟩ := gs
  have lnA : ln (nA (nO π 6 11) 2 3) (nn (nO π 6 11)) = 3 := ln_nA _ _ _
  refine ⟨nA (nO π 6 11) 2 3, σ1, e, o1, ⟨(ext_nO π 6 11).tr (ext_nA _ _ _), fun f i hi => hf f i (by omega), fun a j ha => ?_⟩, by rw [nn_nA, n1], rfl, ⟨o2, g0, g1, g2, g3, g4, g5⟩, ⟨⟨by rw [g9]; exact a1, by rw [g9]; exact lnA⟩, by rw [g10]; rfl, by simp, trivial⟩, ⟨g6, g7, g8⟩, by rw [g9, n1, hs]; omega⟩
  rw [hσ1]
  simp only [el_sf, el_zA]
  rw [if_neg (by omega)]
  rfl
end WA9
