/-! what stands in a text: places, blanks, numbers -/
def XB (σ τ : St) (st cl : Int) : Prop := RTp σ τ ∧ (fl σ 223 50 = cl ∧ 0 ≤ st ∧ st ≤ fl σ 222 50 ∧ fl σ 222 50 ≤ cl ∧ cl < fl τ 1 0) ∧ bA τ cl = 34 ∧ ∀ i, st ≤ i → i < cl → 32 ≤ bA τ i ∧ bA τ i ≤ 126 ∧ bA τ i ≠ 34
def XFc (σ σ' : St) : Prop := (∀ (f : Nat) (i : Int), ¬ (i = 50 ∧ (f = 222 ∨ f = 225)) → ¬ (i = 1 ∧ (f = 182 ∨ f = 183)) → fl σ' f i = fl σ f i) ∧ ∀ a j : Int, el σ' a j = el σ a j
def XFr (τ τ' : St) : Prop := (∀ (f : Nat) (i : Int), f ≠ 2 → f ≠ 4 → f ≠ 11 → f ≠ 12 → fl τ' f i = fl τ f i) ∧ ∀ a j : Int, el τ' a j = el τ a j
theorem XFc.rf (σ : St) : XFc σ σ := ⟨fun _ _ _ _ => rfl, fun _ _ => rfl⟩
theorem XFr.rf (τ : St) : XFr τ τ := ⟨fun _ _ _ _ _ _ => rfl, fun _ _ => rfl⟩
theorem XFc.tr {σ σ1 σ2 : St} (h : XFc σ σ1) (k : XFc σ1 σ2) : XFc σ σ2 := ⟨fun f i x y => (k.1 f i x y).trans (h.1 f i x y), fun a j => (k.2 a j).trans (h.2 a j)⟩
theorem XFr.tr {τ τ1 τ2 : St} (h : XFr τ τ1) (k : XFr τ1 τ2) : XFr τ τ2 := ⟨fun f i a b c d => (k.1 f i a b c d).trans (h.1 f i a b c d), fun a j => (k.2 a j).trans (h.2 a j)⟩
theorem XFc.at {σ σ1 : St} (h : XFc σ σ1) (v : Int) : XFc σ (sf σ1 222 50 v) := h.tr ⟨fun f i x _ => by rw [fl_sf, if_neg (by rintro ⟨rfl, rfl⟩; exact x ⟨rfl, Or.inl rfl⟩)], fun _ _ => rfl⟩
theorem XFc.dg {σ σ1 : St} (h : XFc σ σ1) (v : Int) : XFc σ (sf σ1 225 50 v) := h.tr ⟨fun f i x _ => by rw [fl_sf, if_neg (by rintro ⟨rfl, rfl⟩; exact x ⟨rfl, Or.inr rfl⟩)], fun _ _ => rfl⟩
theorem XFr.at {τ τ1 : St} (h : XFr τ τ1) (v : Int) : XFr τ (sf τ1 2 0 v) := h.tr ⟨fun f i x _ _ _ => fl_sfn _ _ _ _ x, fun _ _ => rfl⟩
theorem XFr.tk {τ τ1 : St} (h : XFr τ τ1) (v : Int) : XFr τ (sf τ1 4 0 v) := h.tr ⟨fun f i _ x _ _ => fl_sfn _ _ _ _ x, fun _ _ => rfl⟩
theorem RTp.xf {σ τ σ' τ' : St} (h : RTp σ τ) (hc : XFc σ σ') (hr : XFr τ τ') : RTp σ' τ' := by
  unfold RTp
  rw [hc.1 181 1 (by omega) (by omega), hr.1 1 0 (by decide) (by decide) (by decide) (by decide)]
  obtain ⟨a, b, c, d⟩ := h
  exact ⟨a, b, c, fun j j0 j1 => by rw [hc.2, hr.2]; exact d j j0 j1⟩
theorem bA_xf {τ τ' : St} (hr : XFr τ τ') (k : Int) : bA τ' k = bA τ k := by unfold bA; rw [hr.1 1 0 (by decide) (by decide) (by decide) (by decide), hr.2]
theorem dvl_xf {τ τ' : St} (hr : XFr τ τ') (k : Int) : ∀ m, dvl τ' k m = dvl τ k m
  | 0 => rfl
  | m + 1 => by show dvl τ' k m * 10 + bA τ' (k + m) - 48 = dvl τ k m * 10 + bA τ (k + m) - 48; rw [bA_xf hr, dvl_xf hr k m]
theorem XB.xf {σ τ σ' τ' : St} {st cl : Int} (h : XB σ τ st cl) (hc : XFc σ σ') (hr : XFr τ τ') (h1 : st ≤ fl σ' 222 50) (h2 : fl σ' 222 50 ≤ cl) : XB σ' τ' st cl := by
  obtain ⟨a, ⟨b1, b2, b3, b4, b5⟩, c, d⟩ := h
  refine ⟨a.xf hc hr, ⟨by rw [hc.1 223 50 (by omega) (by omega)]; exact b1, b2, h1, h2, by rw [hr.1 1 0 (by decide) (by decide) (by decide) (by decide)]; exact b5⟩, by rw [bA_xf hr]; exact c, fun i x y => by rw [bA_xf hr]; exact d i x y⟩
/-- a fault is told once -/
def flS (σ : St) (x y : Int) : St := if fl σ 182 1 = 0 then sf (sf σ 182 1 x) 183 1 y else σ
theorem flS_xf {σ σ1 : St} (h : XFc σ σ1) (x y : Int) : XFc σ (flS σ1 x y) := by
  unfold flS
  split
  · exact h.tr ⟨fun f i _ q => by rw [fl_sf, if_neg (by rintro ⟨rfl, rfl⟩; exact q ⟨rfl, Or.inr rfl⟩), fl_sf, if_neg (by rintro ⟨rfl, rfl⟩; exact q ⟨rfl, Or.inl rfl⟩)], fun _ _ => rfl⟩
  · exact h
theorem flS_222 (σ : St) (x y : Int) : fl (flS σ x y) 222 50 = fl σ 222 50 ∧ fl (flS σ x y) 225 50 = fl σ 225 50 := by
  unfold flS
  split
  · exact ⟨by rw [fl_sfn _ _ _ _ (by decide), fl_sfn _ _ _ _ (by decide)], by rw [fl_sfn _ _ _ _ (by decide), fl_sfn _ _ _ _ (by decide)]⟩
  · exact ⟨rfl, rfl⟩
theorem flS_0 {σ : St} {x y : Int} (h : fl σ 182 1 = 0) : fl (flS σ x y) 182 1 = x ∧ fl (flS σ x y) 183 1 = y := by
  unfold flS
  rw [if_pos h]
  exact ⟨by rw [fl_sfn _ _ _ _ (by decide), fl_sfs], fl_sfs _ _ _ _⟩
theorem flS_n {σ : St} {x y : Int} (h : fl σ 182 1 ≠ 0) : flS σ x y = σ := by unfold flS; rw [if_neg h]
section TX1
variable {N : Nat} {π : Sh}
theorem c_fail {σ : St} {x y : Int} (h : i32 (fl σ 182 1)) : Sc_fail N π σ x y = some (flS σ x y) := by
  rw [Sc_fail, grd_t h]
  unfold flS
  by_cases c : fl σ 182 1 = 0
  · rw [if_pos c, if_pos c]
  · rw [if_neg c, if_neg c]
theorem c_here {σ τ : St} {st cl : Int} (h : XB σ τ st cl) : Tx_here N π σ = some (σ, bA τ (fl σ 222 50)) := by
  obtain ⟨a, ⟨b1, b2, b3, b4, b5⟩, c, d⟩ := h
  have s := a.2.2.1
  have e := a.2.2.2 (fl σ 222 50) (by omega) (by omega)
  rw [Tx_here, grd_t (by exact ⟨by omega, by omega⟩), if_pos (by omega), grd_t (by exact ⟨by omega, by omega⟩), e.1, bA_in ⟨by omega, by omega⟩]
/-- the first place that is no blank -/
def nbk (τ : St) (cl : Int) : Nat → Int → Int
  | 0, k => k
  | m + 1, k => if k < cl ∧ bA τ k = 32 then nbk τ cl m (k + 1) else k
theorem nbk_b (τ : St) (cl : Int) : ∀ (m : Nat) (k : Int), k + m = cl → k ≤ nbk τ cl m k ∧ nbk τ cl m k ≤ cl ∧ (nbk τ cl m k < cl → bA τ (nbk τ cl m k) ≠ 32) ∧ ∀ i, k ≤ i → i < nbk τ cl m k → bA τ i = 32
  | 0, k, h => ⟨Int.le_refl _, by show k ≤ cl; omega, fun q => by change k < cl at q; omega, fun i a b => by change i < k at b; omega⟩
  | m + 1, k, h => by
    have e : nbk τ cl (m + 1) k = if k < cl ∧ bA τ k = 32 then nbk τ cl m (k + 1) else k := rfl
    rw [e]
    by_cases c : k < cl ∧ bA τ k = 32
    · rw [if_pos c]
      obtain ⟨a, b, q, d⟩ := nbk_b τ cl m (k + 1) (by omega)
      refine ⟨by omega, b, q, fun i x y => ?_⟩
      by_cases g : i = k
      · rw [g]; exact c.2
      · exact d i (by omega) y
    · rw [if_neg c]
      exact ⟨Int.le_refl _, by omega, fun q g => c ⟨q, g⟩, fun i a b => by omega⟩
def nb (τ : St) (cl k : Int) : Int := nbk τ cl (cl - k).toNat k
theorem c_skip_lp {τ : St} {st cl : Int} : ∀ (m n : Nat) (σ : St), m < n → XB σ τ st cl → fl σ 222 50 + m = cl → Tx_skipBlanks_0 N π n σ = some (sf σ 222 50 (nbk τ cl m (fl σ 222 50)))
  | _, 0, _, h, _, _ => absurd h (by omega)
  | 0, n + 1, σ, _, hx, hm => by
    obtain ⟨a, ⟨b1, b2, b3, b4, b5⟩, c, d⟩ := id hx
    have s := a.2.2.1
    rw [Tx_skipBlanks_0, grd_t (by exact ⟨by omega, by omega⟩), b1, grd_t (by exact ⟨by omega, by omega⟩), if_neg (by omega)]
    show some σ = some (sf σ 222 50 (fl σ 222 50))
    rw [sf_id rfl]
  | m + 1, n + 1, σ, hn, hx, hm => by
    obtain ⟨a, ⟨b1, b2, b3, b4, b5⟩, c, d⟩ := id hx
    have s := a.2.2.1
    have e := a.2.2.2 (fl σ 222 50) (by omega) (by omega)
    have eb : bA τ (fl σ 222 50) = el τ 97 (fl σ 222 50) := bA_in ⟨by omega, by omega⟩
    rw [Tx_skipBlanks_0, grd_t (by exact ⟨by omega, by omega⟩), b1, grd_t (by exact ⟨by omega, by omega⟩), if_pos (by omega), if_pos (by omega), grd_t (by exact ⟨by omega, by omega⟩), e.1, ← eb, grd_t (by exact ⟨by omega, by omega⟩)]
    show _ = some (sf σ 222 50 (if fl σ 222 50 < cl ∧ bA τ (fl σ 222 50) = 32 then nbk τ cl m (fl σ 222 50 + 1) else fl σ 222 50))
    by_cases q : bA τ (fl σ 222 50) = 32
    · rw [if_pos q, if_pos ⟨by omega, q⟩]
      have f : fl (sf σ 222 50 (fl σ 222 50 + 1)) 222 50 = fl σ 222 50 + 1 := fl_sfs _ _ _ _
      rw [c_skip_lp m n _ (by omega) (hx.xf ((XFc.rf σ).at _) (XFr.rf τ) (by rw [f]; omega) (by rw [f]; omega)) (by rw [f]; omega), f, sf_sf]
    · rw [if_neg q, if_neg (fun h => q h.2), sf_id rfl]
theorem c_skip {σ τ : St} {st cl : Int} (hN : 3000 ≤ N) (h : XB σ τ st cl) : Tx_skipBlanks N π σ = some (sf σ 222 50 (nb τ cl (fl σ 222 50))) := by
  have s := h.1.2.2.1
  obtain ⟨-, ⟨b1, b2, b3, b4, b5⟩, -⟩ := id h
  exact c_skip_lp _ N σ (by omega) h (by omega)
theorem nb_in {σ τ : St} {st cl : Int} (h : XB σ τ st cl) : fl σ 222 50 ≤ nb τ cl (fl σ 222 50) ∧ nb τ cl (fl σ 222 50) ≤ cl ∧ bA τ (nb τ cl (fl σ 222 50)) ≠ 32 ∧ ∀ i, fl σ 222 50 ≤ i → i < nb τ cl (fl σ 222 50) → bA τ i = 32 := by
  obtain ⟨-, ⟨b1, b2, b3, b4, b5⟩, b6, -⟩ := id h
  obtain ⟨a, b, c, d⟩ := nbk_b τ cl (cl - fl σ 222 50).toNat (fl σ 222 50) (by omega)
  change fl σ 222 50 ≤ nb τ cl (fl σ 222 50) at a
  change nb τ cl (fl σ 222 50) ≤ cl at b
  refine ⟨a, b, ?_, d⟩
  by_cases q : nb τ cl (fl σ 222 50) < cl
  · exact c q
  · rw [show nb τ cl (fl σ 222 50) = cl by omega, b6]; decide
theorem r_skip_lp {σ τ0 : St} (hT : RTp σ τ0) {j : Int} (hj : j < fl τ0 1 0 ∧ bA τ0 j ≠ 32) : ∀ (m n : Nat) (τ : St), m < n → XFr τ0 τ → 0 ≤ fl τ 2 0 → fl τ 2 0 + m = j → (∀ i, fl τ 2 0 ≤ i → i < j → bA τ0 i = 32) → r_skip_0 N n τ = some (sf τ 2 0 j)
  | _, 0, _, h, _, _, _, _ => absurd h (by omega)
  | 0, n + 1, τ, _, hr, h0, hm, _ => by
    have s := hT.2.2.1
    have bb := bA_rg hT (fl τ 2 0)
    have e : fl τ 2 0 = j := by omega
    rw [r_skip_0, rr_byteAt (hT.xf (XFc.rf σ) hr) (by exact ⟨by omega, by omega⟩), Option.bind_some, bA_xf hr, grd_t (by exact ⟨by omega, by omega⟩), if_neg (by rw [e]; exact hj.2), sf_id e]
  | m + 1, n + 1, τ, hn, hr, h0, hm, hA => by
    have s := hT.2.2.1
    have bb := bA_rg hT (fl τ 2 0)
    have f : fl (sf τ 2 0 (fl τ 2 0 + 1)) 2 0 = fl τ 2 0 + 1 := fl_sfs _ _ _ _
    rw [r_skip_0, rr_byteAt (hT.xf (XFc.rf σ) hr) (by exact ⟨by omega, by omega⟩), Option.bind_some, bA_xf hr, grd_t (by exact ⟨by omega, by omega⟩), if_pos (hA _ (by omega) (by omega)), r_skip_lp hT hj m n _ (by omega) (hr.at _) (by rw [f]; omega) (by rw [f]; omega) (fun i a b => hA i (by rw [f] at a; omega) b), sf_sf]
theorem r_skip' {σ τ : St} {st cl : Int} (hN : 3000 ≤ N) (h : XB σ τ st cl) (hat : fl τ 2 0 = fl σ 222 50) : r_skip N τ = some (sf τ 2 0 (nb τ cl (fl σ 222 50))) := by
  have s := h.1.2.2.1
  obtain ⟨-, ⟨b1, b2, b3, b4, b5⟩, b6, -⟩ := id h
  obtain ⟨a, b, c, d⟩ := nb_in h
  exact r_skip_lp h.1 ⟨by omega, c⟩ (nb τ cl (fl σ 222 50) - fl σ 222 50).toNat N τ (by omega) (XFr.rf τ) (by omega) (by omega) (fun i x y => d i (by omega) y)
/-- digits of the class: e of them stand there -/
theorem c_digits_lp {σ0 τ : St} {st cl : Int} (hx0 : XB σ0 τ st cl) {k : Int} (hk : st ≤ k) (e : Nat) (he : k + e ≤ cl) (hA : ∀ i, k ≤ i → i < k + e → isDg (bA τ i)) (hB : ¬ isDg (bA τ (k + e))) (lg : Nat) (hlg : lg ≤ 6) : ∀ (m n d : Nat) (σ : St), m < n → d + m = min e lg → XFc σ0 σ → fl σ 222 50 = k + d → fl σ 225 50 = k → Tx_digits_18 N π n σ lg (dvl τ k d) = some (sf σ 222 50 (k + ((min e lg : Nat) : Int)), if 1 ≤ e ∧ e ≤ lg then dvl τ k e else -1) := by
  obtain ⟨a0, ⟨b1, b2, b3, b4, b5⟩, c0, d0⟩ := id hx0
  have size := a0.2.2.1
  intro m
  induction m with
  | zero =>
    intro n d σ hn hd hc h222 h225
    obtain ⟨n, rfl⟩ : ∃ q, n = q + 1 := ⟨n - 1, by omega⟩
    have hx := a0.xf hc (XFr.rf τ)
    have h223 : fl σ 223 50 = cl := by rw [hc.1 223 50 (by omega) (by omega)]; exact b1
    have eb : ∀ i, 0 ≤ i → i < fl τ 1 0 → el σ 2 i = bA τ i := fun i x y => by rw [bA_in ⟨x, y⟩]; exact (hx.2.2.2 i x y).1
    have rg : ∀ i, -128 ≤ bA τ i ∧ bA τ i < 128 := fun i => bA_rg a0 i
    rw [show ((min e lg : Nat) : Int) = d by omega]
    rw [sf_id h222]
    have e92 : Tx_digits_92 N π σ (dvl τ k d) = some (σ, if 1 ≤ e ∧ e ≤ lg then dvl τ k e else -1) := by
      rw [Tx_digits_92, h222, h223, grd_t (by exact ⟨by omega, by omega⟩), grd_t (by exact ⟨by omega, by omega⟩)]
      have e129 : ¬ (lg < e) → Tx_digits_129 N π σ (dvl τ k d) = some (σ, if 1 ≤ e ∧ e ≤ lg then dvl τ k e else -1) := fun hle => by
        have ed : d = e := by omega
        rw [Tx_digits_129, Tx_digits_130, grd_t (by decide), if_pos rfl, h222, h225, grd_t (by exact ⟨by omega, by omega⟩), grd_t (by exact ⟨by omega, by omega⟩)]
        by_cases c : e = 0
        · rw [if_pos (by omega), if_neg (by omega)]; rfl
        · rw [if_neg (by omega), if_pos (by omega), ed]
      by_cases c1 : k + (d : Int) < cl
      · rw [if_pos c1, grd_t (by exact ⟨by omega, by omega⟩), eb _ (by omega) (by omega), grd_t (by have := rg (k + d); exact ⟨by omega, by omega⟩)]
        by_cases c2 : lg < e
        · have dg := hA (k + d) (by omega) (by omega)
          rw [if_neg (by omega), if_neg (by omega), Tx_digits_130, grd_t (by decide), if_neg (by decide), if_neg (by omega)]; rfl
        · have ed : d = e := by omega
          rw [← ed] at hB
          by_cases c3 : bA τ (k + d) < 48
          · rw [if_pos c3, e129 c2]
          · rw [if_neg c3, if_pos (by omega), e129 c2]
      · rw [if_neg c1]
        exact e129 (by omega)
    rw [Tx_digits_18, h222, h223, h225, grd_t (by exact ⟨by omega, by omega⟩), grd_t (by exact ⟨by omega, by omega⟩)]
    by_cases c1 : k + (d : Int) < cl
    · rw [if_pos c1, show k + (d : Int) - k = d by omega, grd_t (by exact ⟨by omega, by omega⟩), grd_t (by exact ⟨by omega, by omega⟩)]
      by_cases c2 : (d : Int) < lg
      · have ed : d = e := by omega
        rw [← ed] at hB
        rw [if_pos c2, grd_t (by exact ⟨by omega, by omega⟩), eb _ (by omega) (by omega), grd_t (by have := rg (k + d); exact ⟨by omega, by omega⟩)]
        by_cases c3 : bA τ (k + d) < 48
        · rw [if_pos c3, e92]
        · rw [if_neg c3, if_pos (by omega), e92]
      · rw [if_neg c2, e92]
    · rw [if_neg c1, e92]
  | succ m ih =>
    intro n d σ hn hd hc h222 h225
    obtain ⟨n, rfl⟩ : ∃ q, n = q + 1 := ⟨n - 1, by omega⟩
    have hx := a0.xf hc (XFr.rf τ)
    have h223 : fl σ 223 50 = cl := by rw [hc.1 223 50 (by omega) (by omega)]; exact b1
    have eb : ∀ i, 0 ≤ i → i < fl τ 1 0 → el σ 2 i = bA τ i := fun i x y => by rw [bA_in ⟨x, y⟩]; exact (hx.2.2.2 i x y).1
    have rg := bA_rg a0 (k + d)
    have dg := hA (k + d) (by omega) (by omega)
    have q := ih n (d + 1) (sf σ 222 50 (k + d + 1)) (by omega) (by omega) (hc.at _) (by rw [fl_sfs]; omega) (by rw [fl_sfn _ _ _ _ (by decide)]; exact h225)
    rw [sf_sf] at q
    rw [Tx_digits_18, h222, h223, h225, grd_t (by exact ⟨by omega, by omega⟩), grd_t (by exact ⟨by omega, by omega⟩), if_pos (by omega), show k + (d : Int) - k = d by omega, grd_t (by exact ⟨by omega, by omega⟩), grd_t (by exact ⟨by omega, by omega⟩), if_pos (by omega), grd_t (by exact ⟨by omega, by omega⟩), eb _ (by omega) (by omega), grd_t (by exact ⟨by omega, by omega⟩), if_neg (by omega), if_neg (by omega), bnd]
    exact q
/-- how many digits stand at a place -/
theorem dg_run {σ τ : St} {st cl : Int} (h : XB σ τ st cl) {k : Int} (k0 : st ≤ k) (k1 : k ≤ cl) : ∃ e : Nat, k + e ≤ cl ∧ (∀ i, k ≤ i → i < k + e → isDg (bA τ i)) ∧ ¬ isDg (bA τ (k + e)) := by
  obtain ⟨a, ⟨b1, b2, b3, b4, b5⟩, c, d⟩ := id h
  obtain ⟨e, e1, e2, e3, -⟩ := digits_end (N := 3000) (π := (fun _ => 0, fun _ => 0, 0, 0)) a (k := k) (by omega) (by omega)
  refine ⟨e, ?_, e2, e3⟩
  by_cases q : k + e ≤ cl
  · exact q
  · have := e2 cl k1 (by omega)
    omega
end TX1
