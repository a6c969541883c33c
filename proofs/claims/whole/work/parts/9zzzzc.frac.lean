/-! fractions and counts of functions: both -/
section FC9
variable {N : Nat} {b : Bse} {dl : List (Int × Int)}
theorem rcom_lq : ∀ (m : Nat) (x y : Int) (n : Nat), 0 ≤ x → x ≤ 100000 → 0 ≤ y → y ≤ m → y ≤ 100000 → m < n → r_common_4 N n x y = some (gC x y)
  | 0, x, y, n, h1, h2, h3, h4, h5, h6 => by
    obtain ⟨n, rfl⟩ : ∃ q, n = q + 1 := ⟨n - 1, by omega⟩
    have e : y = 0 := by omega
    rw [r_common_4, e, grd_t (by decide), if_pos rfl, gC_0 h1]
  | m + 1, x, y, n, h1, h2, h3, h4, h5, h6 => by
    obtain ⟨n, rfl⟩ : ∃ q, n = q + 1 := ⟨n - 1, by omega⟩
    by_cases e : y = 0
    · rw [r_common_4, e, grd_t (by decide), if_pos rfl, gC_0 h1]
    · have hm : Int.tmod x y = x % y := Int.tmod_eq_emod_of_nonneg h1
      have h7 := Int.emod_nonneg x e
      have h8 := Int.emod_lt_of_pos x (show 0 < y by omega)
      rw [r_common_4, grd_t (by exact ⟨by omega, by omega⟩), if_neg e, grd_t (by exact ⟨by omega, by omega⟩), grd_t e]
      simp only [bnd]
      rw [hm, rcom_lq m y (x % y) n h3 h5 h7 (by omega) (by omega) (by omega), gC_step h1 (by omega)]
theorem r_com {x y : Int} (hN : 20000 ≤ N) (hx : 0 ≤ x ∧ x ≤ 9999) (hy : 0 ≤ y ∧ y ≤ 9999) : r_common N x y = some (gC x y) := rcom_lq 9999 x y N hx.1 (by omega) hy.1 (by omega) (by omega) (by omega)
/-- a fraction in its least terms -/
theorem reduced {x y : Int} (hx : 0 ≤ x ∧ x ≤ 64) (hy : 1 ≤ y ∧ y ≤ 64) : ∃ g u v : Int, g = gC x y ∧ 0 < g ∧ g ≤ 64 ∧ Int.tdiv x g = u ∧ Int.tdiv y g = v ∧ x = u * g ∧ y = v * g ∧ (0 ≤ u ∧ u ≤ x) ∧ (1 ≤ v ∧ v ≤ y) ∧ (v = 1 ∨ u % v ≠ 0) ∧ (1 ≤ x → 1 ≤ u) ∧ (x ≤ y → u ≤ v) := by
  have g0 : 0 < gC x y := gC_pos (by omega)
  have g1 : gC x y ≤ y := gC_le (by omega)
  obtain ⟨g, hg⟩ : ∃ g, g = gC x y := ⟨_, rfl⟩
  rw [← hg] at g0 g1
  have d1 : g ∣ x := by rw [hg]; exact Int.gcd_dvd_left x y
  have d2 : g ∣ y := by rw [hg]; exact Int.gcd_dvd_right x y
  have ex : x = x / g * g := (Int.ediv_mul_cancel d1).symm
  have ey : y = y / g * g := (Int.ediv_mul_cancel d2).symm
  have tu : Int.tdiv x g = x / g := Int.tdiv_eq_ediv_of_nonneg hx.1
  have tv : Int.tdiv y g = y / g := Int.tdiv_eq_ediv_of_nonneg (by omega)
  have u0 : 0 ≤ x / g := Int.ediv_nonneg hx.1 (by omega)
  have u1 : x / g ≤ x := Int.ediv_le_self _ hx.1
  have v1 : y / g ≤ y := Int.ediv_le_self _ (by omega)
  have v0 : 1 ≤ y / g := by
    by_cases c : 1 ≤ y / g
    · exact c
    · have w : 0 ≤ y / g := Int.ediv_nonneg (by omega) (by omega)
      have z : y / g = 0 := by omega
      rw [z] at ey
      omega
  refine ⟨g, x / g, y / g, hg, g0, by omega, tu, tv, ex, ey, ⟨u0, u1⟩, ⟨v0, v1⟩, ?_, ?_, ?_⟩
  · by_cases c : x / g % (y / g) = 0
    · left
      have dv : y / g ∣ x / g := Int.dvd_of_emod_eq_zero c
      have dy : y ∣ x := by
        rw [ex, ey]
        exact Int.mul_dvd_mul_right _ dv
      have dg : y ∣ g := by
        rw [hg]
        exact Int.dvd_coe_gcd dy (Int.dvd_refl y)
      have le : y ≤ g := Int.le_of_dvd g0 dg
      have e : g = y := by omega
      rw [e]
      exact Int.ediv_self (by omega)
    · exact Or.inr c
  · intro h1
    by_cases c : 1 ≤ x / g
    · exact c
    · have z : x / g = 0 := by omega
      rw [z] at ex
      omega
  · intro h1
    exact Int.ediv_le_ediv g0 h1
/-- fields of a piece are written -/
def PWr (σ σ' : St) (pc : Int) : Prop := (∀ (f : Nat) (i : Int), ¬ (i = pc ∧ 120 ≤ f ∧ f ≤ 130) → fl σ' f i = fl σ f i) ∧ ∀ a j : Int, el σ' a j = el σ a j
theorem PWr.sf (σ : St) (f : Nat) (pc v : Int) (h : 120 ≤ f ∧ f ≤ 130) : PWr σ (sf σ f pc v) pc := ⟨fun g j a => by rw [fl_sf, if_neg (by omega)], fun _ _ => rfl⟩
theorem PWr.tr {σ σ1 σ2 : St} {pc : Int} (h : PWr σ σ1 pc) (k : PWr σ1 σ2 pc) : PWr σ σ2 pc := ⟨fun f i a => (k.1 f i a).trans (h.1 f i a), fun a j => (k.2 a j).trans (h.2 a j)⟩
theorem BDy.pw {X : Int → Prop} {π : Sh} {σ σ' τ : St} {D P pc : Int} {L : List Stq} {Kn : List Int} (h : BDy X π σ τ D P L Kn) (k : PWr σ σ' pc) : BDy X π σ' τ D P L Kn := by
  have h1 := k.1
  exact h.mv ⟨ext.rf _, fun f i a b _ => h1 f i (by unfold inF at a; omega), fun a j _ _ _ => k.2 a j⟩ (TX.rf _) ⟨h1 22 D (by omega), h1 23 D (by omega), h1 24 D (by omega)⟩ (fun f x hf hx => h1 f x (by omega)) (fun x j _ _ => k.2 _ j)
theorem XEs.pw {X : Int → Prop} {π : Sh} {σ σ' τ : St} {L : List Stq} {Kn : List Int} {pc : Int} (h : XEs b X π σ τ L Kn) (k : PWr σ σ' pc) (hn : nn b.1 ≤ pc ∧ 56 ≤ pc) : XEs b X π σ' τ L Kn := by
  have e := h.2.2.2.2.2.2.1
  exact h.gen ⟨e.1, fun f i a b c d g => by rw [k.1 f i (by omega)]; exact e.2.1 f i a b c d g, fun a j x y z => by rw [k.2]; exact e.2.2.1 a j x y z, by rw [k.1 1 _ (by omega)]; exact e.2.2.2.1, by rw [k.1 1 _ (by omega)]; exact e.2.2.2.2⟩ (ext.rf _) (fun g => k.1 g 1 (by omega)) (k.1 144 44 (by omega)) (fun j => k.2 2 j) (h.2.2.2.2.2.1.pw k) h.2.2.2.2.2.2.2.2.2
/-- the class reads a fraction -/
theorem c_frac {π : Sh} {σ : St} {pc f x y a0 b0 x2 : Int} (hN : 200 ≤ N) (ho : ob π pc 6) (h120 : fl σ 120 pc = f ∧ i32 f) (h1 : fl σ 185 1 = 2 ∨ fl σ 185 1 = 3) (hx : fl σ 189 1 = x ∧ 0 ≤ x ∧ x ≤ 9999) (hy : fl σ 190 1 = y ∧ 0 ≤ y ∧ y ≤ 9999) (hab : fl σ 122 pc = a0 ∧ fl σ 123 pc = b0) (h0 : (0 ≤ a0 ∧ a0 ≤ 1000) ∧ 0 ≤ b0 ∧ b0 ≤ 1000) (h2 : x2 = 0 ∨ x2 = 1) (hf : fl σ 182 1 = 0) : Rd_fraction N π σ pc x2 = if (x ≤ 64 ∧ y ≤ 64 ∧ 0 < y ∧ ¬ ((f = 0 ∨ f = 1) ∧ x = 0) ∧ ¬ ((f = 19 ∨ f = 20) ∧ y < x)) ∧ (x2 = 1 ∨ a0 * y < x * b0) then (if x2 = 1 then Sc_advance N π (sf (sf σ 122 pc (Int.tdiv x (gC x y))) 123 pc (Int.tdiv y (gC x y))) else Sc_advance N π (sf (sf σ 124 pc (Int.tdiv x (gC x y))) 125 pc (Int.tdiv y (gC x y)))) else some (sf (sf σ 182 1 3) 183 1 (fl σ 186 1)) := by
  have flt : Rd_fraction_172 N π σ = some (sf (sf σ 182 1 3) 183 1 (fl σ 186 1)) := by
    rw [Rd_fraction_172, c_fail (by rw [hf]; decide), Option.bind_some, flS, if_pos hf]
  have k144 : ∀ c, Rd_fraction_144 N π σ pc x2 x c = some (sf (sf σ 182 1 3) 183 1 (fl σ 186 1)) := fun c => by
    rw [Rd_fraction_144, Rd_fraction_145, grd_t (by decide), if_pos rfl, flt]
  have top : Rd_fraction N π σ pc x2 = Rd_fraction_38 N π σ pc x2 := by
    rw [Rd_fraction]
    rcases h1 with h | h
    · rw [h, grd_t (by decide), if_pos rfl]
    · rw [h, grd_t (by decide), if_neg (by decide), if_pos rfl]
  have tail : ∀ p, p = true → (x ≤ 64 ∧ y ≤ 64 ∧ 0 < y) → Rd_fraction_140 N π σ pc x2 x y = if x2 = 1 ∨ a0 * y < x * b0 then (if x2 = 1 then Sc_advance N π (sf (sf σ 122 pc (Int.tdiv x (gC x y))) 123 pc (Int.tdiv y (gC x y))) else Sc_advance N π (sf (sf σ 124 pc (Int.tdiv x (gC x y))) 125 pc (Int.tdiv y (gC x y)))) else some (sf (sf σ 182 1 3) 183 1 (fl σ 186 1)) := by
    intro _ _ hb
    have gp : 0 < gC x y := gC_pos (by omega)
    have gl : gC x y ≤ y := gC_le (by omega)
    have bindid : ∀ q : Option St, Option.bind q (fun r53 => some r53) = q := fun q => by cases q <;> rfl
    have e188 : Rd_fraction_188 N π σ pc x2 x y = if x2 = 1 then Sc_advance N π (sf (sf σ 122 pc (Int.tdiv x (gC x y))) 123 pc (Int.tdiv y (gC x y))) else Sc_advance N π (sf (sf σ 124 pc (Int.tdiv x (gC x y))) 125 pc (Int.tdiv y (gC x y))) := by
      rw [Rd_fraction_188, grd_t (by exact ⟨by omega, by omega⟩), grd_t (by exact ⟨by omega, by omega⟩), c_gcd hN hx.2.1 (by omega) hb.2.2 (by omega), Option.bind_some]
      rcases h2 with h | h
      · rw [h, grd_t (by decide), if_pos rfl, grd_t (by exact ⟨by omega, by omega⟩), grd_t (by omega), grd_t ho, if_neg (by decide), Rd_fraction_240, bindid]
      · rw [h, grd_t (by decide), if_neg (by decide), grd_t (by exact ⟨by omega, by omega⟩), grd_t (by omega), grd_t ho, if_pos rfl, Rd_fraction_240, bindid]
    rw [Rd_fraction_140, Rd_fraction_145, grd_t (by decide), if_neg (by decide)]
    rcases h2 with h | h
    · have m1 : 0 ≤ x * b0 ∧ x * b0 ≤ 64 * 1000 := ⟨Int.mul_nonneg hx.2.1 h0.2.1, Int.mul_le_mul (by omega) (by omega) (by omega) (by omega)⟩
      have m2 : 0 ≤ a0 * y ∧ a0 * y ≤ 1000 * 64 := ⟨Int.mul_nonneg h0.1.1 hy.2.1, Int.mul_le_mul (by omega) (by omega) (by omega) (by omega)⟩
      rw [e188, h, grd_t (by decide), if_pos rfl, grd_t ho, hab.1, hab.2, grd_t (by exact ⟨by omega, by omega⟩), grd_t (by exact ⟨by omega, by omega⟩)]
      by_cases c : a0 * y < x * b0
      · rw [if_pos c, if_pos (Or.inr c)]
      · rw [if_neg c, flt, if_neg (by omega)]
    · rw [e188, h, grd_t (by decide), if_neg (by decide), if_pos (Or.inl rfl)]
  have e129 : ∀ s0, s0 = (if f = 19 ∨ f = 20 then (1 : Int) else 0) → (x ≤ 64 ∧ y ≤ 64 ∧ 0 < y) → Rd_fraction_129 N π σ pc x2 x y s0 = if ¬ ((f = 19 ∨ f = 20) ∧ y < x) then Rd_fraction_140 N π σ pc x2 x y else some (sf (sf σ 182 1 3) 183 1 (fl σ 186 1)) := by
    intro s0 hs hb
    rw [Rd_fraction_129]
    by_cases c : f = 19 ∨ f = 20
    · rw [if_pos c] at hs
      rw [hs, grd_t (by decide), if_neg (by decide), grd_t (by exact ⟨by omega, by omega⟩), grd_t (by exact ⟨by omega, by omega⟩)]
      by_cases c2 : y < x
      · rw [if_pos c2, k144, if_neg (fun w => w ⟨c, c2⟩)]
      · rw [if_neg c2, if_pos (fun w => c2 w.2)]
    · rw [if_neg c] at hs
      rw [hs, grd_t (by decide), if_pos rfl, if_pos (fun w => c w.1)]
  have e100 : ∀ x5 s0, x5 = (if f = 0 ∨ f = 1 then (1 : Int) else 0) → s0 = (if f = 19 ∨ f = 20 then (1 : Int) else 0) → Rd_fraction_100 N π σ pc x2 x y x5 s0 = if (x ≤ 64 ∧ y ≤ 64 ∧ 0 < y ∧ ¬ ((f = 0 ∨ f = 1) ∧ x = 0) ∧ ¬ ((f = 19 ∨ f = 20) ∧ y < x)) then Rd_fraction_140 N π σ pc x2 x y else some (sf (sf σ 182 1 3) 183 1 (fl σ 186 1)) := by
    intro x5 s0 h5 hs
    rw [Rd_fraction_100, grd_t (by exact ⟨by omega, by omega⟩)]
    by_cases c1 : (64 : Int) < x
    · rw [if_pos c1, k144, if_neg (by omega)]
    rw [if_neg c1, grd_t (by exact ⟨by omega, by omega⟩)]
    by_cases c2 : (64 : Int) < y
    · rw [if_pos c2, k144, if_neg (by omega)]
    rw [if_neg c2]
    by_cases c3 : 0 < y
    · rw [if_pos c3]
      have hb : x ≤ 64 ∧ y ≤ 64 ∧ 0 < y := ⟨by omega, by omega, c3⟩
      have fin : (¬ ((f = 0 ∨ f = 1) ∧ x = 0)) → Rd_fraction_129 N π σ pc x2 x y s0 = if (x ≤ 64 ∧ y ≤ 64 ∧ 0 < y ∧ ¬ ((f = 0 ∨ f = 1) ∧ x = 0) ∧ ¬ ((f = 19 ∨ f = 20) ∧ y < x)) then Rd_fraction_140 N π σ pc x2 x y else some (sf (sf σ 182 1 3) 183 1 (fl σ 186 1)) := by
        intro hz
        rw [e129 s0 hs hb]
        by_cases c4 : ¬ ((f = 19 ∨ f = 20) ∧ y < x)
        · rw [if_pos c4, if_pos ⟨hb.1, hb.2.1, hb.2.2, hz, c4⟩]
        · rw [if_neg c4, if_neg (fun w => c4 w.2.2.2.2)]
      by_cases c4 : f = 0 ∨ f = 1
      · rw [if_pos c4] at h5
        rw [h5, grd_t (by decide), if_neg (by decide)]
        by_cases c5 : x = 0
        · rw [if_pos c5, k144, if_neg (fun w => w.2.2.2.1 ⟨c4, c5⟩)]
        · rw [if_neg c5]; exact fin (fun w => c5 w.2)
      · rw [if_neg c4] at h5
        rw [h5, grd_t (by decide), if_pos rfl]
        exact fin (fun w => c4 w.1)
    · rw [if_neg c3, k144, if_neg (by omega)]
  have e75 : ∀ x5, x5 = (if f = 0 ∨ f = 1 then (1 : Int) else 0) → Rd_fraction_75 N π σ pc x2 x y x5 = if (x ≤ 64 ∧ y ≤ 64 ∧ 0 < y ∧ ¬ ((f = 0 ∨ f = 1) ∧ x = 0) ∧ ¬ ((f = 19 ∨ f = 20) ∧ y < x)) then Rd_fraction_140 N π σ pc x2 x y else some (sf (sf σ 182 1 3) 183 1 (fl σ 186 1)) := by
    intro x5 h5
    rw [Rd_fraction_75, grd_t ho, h120.1, grd_t h120.2]
    by_cases c1 : f = 19
    · rw [if_pos c1, Rd_fraction_95]
      exact e100 _ _ h5 (by rw [if_pos (Or.inl c1)])
    rw [if_neg c1]
    by_cases c2 : f = 20
    · rw [if_pos c2, Rd_fraction_95]
      exact e100 _ _ h5 (by rw [if_pos (Or.inr c2)])
    rw [if_neg c2]
    exact e100 _ _ h5 (by rw [if_neg (by omega)])
  have e38 : Rd_fraction_38 N π σ pc x2 = if (x ≤ 64 ∧ y ≤ 64 ∧ 0 < y ∧ ¬ ((f = 0 ∨ f = 1) ∧ x = 0) ∧ ¬ ((f = 19 ∨ f = 20) ∧ y < x)) then Rd_fraction_140 N π σ pc x2 x y else some (sf (sf σ 182 1 3) 183 1 (fl σ 186 1)) := by
    rw [Rd_fraction_38, grd_t ho, h120.1, grd_t h120.2, hx.1, hy.1]
    by_cases c1 : f = 0
    · rw [if_pos c1, Rd_fraction_70]
      exact e75 _ (by rw [if_pos (Or.inl c1)])
    rw [if_neg c1]
    by_cases c2 : f = 1
    · rw [if_pos c2, Rd_fraction_70]
      exact e75 _ (by rw [if_pos (Or.inr c2)])
    rw [if_neg c2]
    exact e75 _ (by rw [if_neg (by omega)])
  rw [top, e38]
  by_cases c : (x ≤ 64 ∧ y ≤ 64 ∧ 0 < y ∧ ¬ ((f = 0 ∨ f = 1) ∧ x = 0) ∧ ¬ ((f = 19 ∨ f = 20) ∧ y < x))
  · rw [if_pos c, tail true rfl ⟨c.1, c.2.1, c.2.2.1⟩]
    by_cases c2 : x2 = 1 ∨ a0 * y < x * b0
    · rw [if_pos c2]; exact (if_pos ⟨c, c2⟩).symm
    · rw [if_neg c2]; exact (if_neg (fun w => c2 w.2)).symm
  · rw [if_neg c, if_neg (fun w => c w.1)]
end FC9
