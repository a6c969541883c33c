/-! the head of a line -/
section HD9
variable {N : Nat}
/-- the name that both stand at -/
theorem TKr.nm {π : Sh} {σ τ : St} (hN : 3000 ≤ N) (h : TKr σ τ) (hF : FNc σ ∧ FNr τ) (h1 : fl σ 185 1 = 1) : RNm (fl σ 188 1) (fl τ 7 0) (fl τ 8 0) ∧ ∃ f : Int, (f = -1 ∨ (0 ≤ f ∧ f ≤ 20)) ∧ Rd_functionOf N π σ (fl σ 188 1) = some (σ, f) ∧ r_functionHere N τ = some (τ, f) := by
  obtain ⟨t1, t2, t3, t4, t5, t6⟩ := h
  rcases t6 with q | q | ⟨-, -, e, q1, q2, q3, q4, q5, q6, q7, q8, q9⟩ | q | q | q | q | ⟨sg, s1, s2, -⟩
  · omega
  · omega
  · have hn : RNm (fl σ 188 1) (fl τ 7 0) (fl τ 8 0) := ⟨cdr τ (fl τ 4 0) e, cdr_ok q4, by rw [cdr_len]; exact q2.1, by rw [cdr_len]; exact q2.2, q7, q8, q9⟩
    obtain ⟨f, f1, f2, f3⟩ := both_fn (N := N) (π := π) hN t1 hF.1 hF.2 rfl q1 t4.1 (by omega) q2.2 q4
    exact ⟨hn, f, f1, by rw [q7]; exact f2, f3⟩
  · omega
  · omega
  · omega
  · omega
  · unfold isSgB isOpB at s1; omega
/-- a new definition -/
theorem c_newdef {π : Sh} {σ : St} {nm : Int} : ∃ π' σ', Df_init N (nO π 1 7) (zO σ (nn π) dfl) (nn π) nm = some (π', σ') ∧ ext π π' ∧ nn π' = nn π + 4 ∧ sw π' = sw π + 17 ∧ (∀ (f : Nat) (i : Int), i < nn π → fl σ' f i = fl σ f i) ∧ (∀ a j : Int, a < nn π → el σ' a j = el σ a j) ∧ (ob π' (nn π) 1 ∧ fl σ' 20 (nn π) = nm ∧ fl σ' 21 (nn π) = nn π + 1 ∧ fl σ' 22 (nn π) = 0 ∧ fl σ' 23 (nn π) = nn π + 2 ∧ fl σ' 24 (nn π) = nn π + 3 ∧ fl σ' 26 (nn π) = -1) ∧ (ob π' (nn π + 1) 23 ∧ ln π' (nn π + 1) = 4) ∧ (ob π' (nn π + 2) 0 ∧ fl σ' 1 (nn π + 2) = -1 ∧ fl σ' 2 (nn π + 2) = 0) ∧ (ob π' (nn π + 3) 0 ∧ fl σ' 1 (nn π + 3) = -1 ∧ fl σ' 2 (nn π + 3) = 0) := by
  obtain ⟨π1, hπ1⟩ : ∃ π1, π1 = nO π 1 7 := ⟨_, rfl⟩
  obtain ⟨π2, hπ2⟩ : ∃ π2, π2 = nA π1 3 4 := ⟨_, rfl⟩
  obtain ⟨π3, hπ3⟩ : ∃ π3, π3 = nO π2 0 3 := ⟨_, rfl⟩
  obtain ⟨π4, hπ4⟩ : ∃ π4, π4 = nO π3 0 3 := ⟨_, rfl⟩
  have n1 : nn π1 = nn π + 1 := by rw [hπ1]; rfl
  have n2 : nn π2 = nn π + 2 := by rw [hπ2, nn_nA, n1]
  have n3 : nn π3 = nn π + 3 := by rw [hπ3, nn_nO, n2]
  have n4 : nn π4 = nn π + 4 := by rw [hπ4, nn_nO, n3]
  have x1 : ext π π1 := by rw [hπ1]; exact ext_nO _ _ _
  have x2 : ext π1 π2 := by rw [hπ2]; exact ext_nA _ _ _
  have x3 : ext π2 π3 := by rw [hπ3]; exact ext_nO _ _ _
  have x4 : ext π3 π4 := by rw [hπ4]; exact ext_nO _ _ _
  have o1 : ob π1 (nn π) 1 := by rw [hπ1]; exact ob_nO _ _ _
  have o2 : ob π2 (nn π + 1) 23 := by have := ob_nA π1 3 4; rw [n1, ← hπ2] at this; exact this
  have l2 : ln π2 (nn π + 1) = 4 := by have := ln_nA π1 3 4; rw [n1, ← hπ2] at this; exact this
  have o3 : ob π3 (nn π + 2) 0 := by have := ob_nO π2 0 3; rw [n2, ← hπ3] at this; exact this
  have o4 : ob π4 (nn π + 3) 0 := by have := ob_nO π3 0 3; rw [n3, ← hπ4] at this; exact this
  have w4 : sw π4 = sw π + 17 := by rw [hπ4, hπ3, hπ2, hπ1]; rfl
  obtain ⟨σ', hσ'⟩ : ∃ σ', σ' = sf (sf (sf (sf (zO (sf (zO (sf (sf (zA (zO σ (nn π) dfl) (nn π1) 0) 21 (nn π) (nn π1)) 22 (nn π) 0) (nn π2) dfl) 23 (nn π) (nn π2)) (nn π3) dfl) 24 (nn π) (nn π3)) 25 (nn π) 0) 26 (nn π) (-1)) 20 (nn π) nm := ⟨_, rfl⟩
  have ff : ∀ (f : Nat) (i : Int), fl σ' f i = if f = 20 ∧ i = nn π then nm else if f = 26 ∧ i = nn π then -1 else if f = 25 ∧ i = nn π then 0 else if f = 24 ∧ i = nn π then (nn π3 : Int) else if i = nn π3 then dfl f else if f = 23 ∧ i = nn π then (nn π2 : Int) else if i = nn π2 then dfl f else if f = 22 ∧ i = nn π then 0 else if f = 21 ∧ i = nn π then (nn π1 : Int) else if i = nn π then dfl f else fl σ f i := fun f i => by
    rw [hσ', fl_sf, fl_sf, fl_sf, fl_sf, fl_zO, fl_sf, fl_zO, fl_sf, fl_sf, fl_zA, fl_zO]
  have ee : ∀ a j : Int, a < nn π → el σ' a j = el σ a j := fun a j ha => by
    have : el σ' a j = el (zA (zO σ (nn π) dfl) (nn π1) 0) a j := by rw [hσ']; rfl
    rw [this, el_zA, if_neg (by omega)]; rfl
  refine ⟨π4, σ', ?_, ((x1.tr x2).tr x3).tr x4, n4, w4, fun f i hi => ?_, ee, ⟨((o1.ext x2).ext x3).ext x4, ?_, ?_, ?_, ?_, ?_, ?_⟩, ⟨(o2.ext x3).ext x4, ?_⟩, ⟨o3.ext x4, ?_, ?_⟩, o4, ?_, ?_⟩
  · rw [← hπ1, Df_init, grd_t o1, ← hπ2, Df_init_8, grd_t (o1.ext x2), grd_t (o1.ext x2), bnd, ← hπ3, Df_init_24, grd_t ((o1.ext x2).ext x3), bnd, ← hπ4, Df_init_35, grd_t (((o1.ext x2).ext x3).ext x4), grd_t (((o1.ext x2).ext x3).ext x4), hσ']
  · rw [ff]; simp only [n1, n2, n3]
    rw [if_neg (by omega), if_neg (by omega), if_neg (by omega), if_neg (by omega), if_neg (by omega), if_neg (by omega), if_neg (by omega), if_neg (by omega), if_neg (by omega), if_neg (by omega)]
  · rw [ff, if_pos ⟨rfl, rfl⟩]
  · rw [ff]; simp only [n1, n2, n3]
    rw [if_neg (by omega), if_neg (by omega), if_neg (by omega), if_neg (by omega), if_neg (by omega), if_neg (by omega), if_neg (by omega), if_neg (by omega), if_pos ⟨trivial, trivial⟩]; omega
  · rw [ff]; simp only [n1, n2, n3]
    rw [if_neg (by omega), if_neg (by omega), if_neg (by omega), if_neg (by omega), if_neg (by omega), if_neg (by omega), if_neg (by omega), if_pos ⟨trivial, trivial⟩]
  · rw [ff]; simp only [n1, n2, n3]
    rw [if_neg (by omega), if_neg (by omega), if_neg (by omega), if_neg (by omega), if_neg (by omega), if_pos ⟨trivial, trivial⟩]; omega
  · rw [ff]; simp only [n1, n2, n3]
    rw [if_neg (by omega), if_neg (by omega), if_neg (by omega), if_pos ⟨trivial, trivial⟩]; omega
  · rw [ff]
    rw [if_neg (by omega), if_pos ⟨rfl, rfl⟩]
  · rw [(x4.2.2 _ (by omega)).2, (x3.2.2 _ (by omega)).2]; exact l2
  · rw [ff]; simp only [n1, n2, n3]
    rw [if_neg (by omega), if_neg (by omega), if_neg (by omega), if_neg (by omega), if_neg (by omega), if_neg (by omega), if_pos (by omega)]; rfl
  · rw [ff]; simp only [n1, n2, n3]
    rw [if_neg (by omega), if_neg (by omega), if_neg (by omega), if_neg (by omega), if_neg (by omega), if_neg (by omega), if_pos (by omega)]; rfl
  · rw [ff]; simp only [n1, n2, n3]
    rw [if_neg (by omega), if_neg (by omega), if_neg (by omega), if_neg (by omega), if_pos (by omega)]; rfl
  · rw [ff]; simp only [n1, n2, n3]
    rw [if_neg (by omega), if_neg (by omega), if_neg (by omega), if_neg (by omega), if_pos (by omega)]; rfl
/-- while parameters are read -/
def HI (π : Sh) (σ τ : St) (D V p : Int) : Prop := (ob π D 1 ∧ 56 ≤ D ∧ fl σ 144 44 = D) ∧ (fl σ 22 D = p ∧ fl τ 38 0 = p ∧ 0 ≤ p ∧ p ≤ 4) ∧ (ob π (fl σ 21 D) 23 ∧ ln π (fl σ 21 D) = 4 ∧ 56 ≤ fl σ 21 D) ∧ (∀ i : Int, 0 ≤ i → i < p → RNm (el σ (fl σ 21 D) i) (el τ 76 i) (el τ 75 i)) ∧ RNm (fl σ 20 D) (el τ 83 V) (el τ 82 V) ∧ TKr σ τ ∧ (fl σ 182 1 = 0 ∧ fl τ 11 0 = 0) ∧ (FNc σ ∧ FNr τ) ∧ 0 ≤ V ∧ V < 6000
/-- what it leaves alone -/
def HFc (D A : Int) (σ σ' : St) : Prop := (∀ (f : Nat) (i : Int), ¬ (i = 1 ∧ 182 ≤ f ∧ f ≤ 190) → ¬ (i = D ∧ f = 22) → fl σ' f i = fl σ f i) ∧ (fl σ' 184 1 = fl σ 184 1) ∧ ∀ a j : Int, a ≠ A → el σ' a j = el σ a j
def HFr (τ τ' : St) : Prop := (∀ (f : Nat) (i : Int), ¬ (3 ≤ f ∧ f ≤ 12) → f ≠ 38 → fl τ' f i = fl τ f i) ∧ ∀ a j : Int, a ≠ 75 → a ≠ 76 → el τ' a j = el τ a j
theorem hd_lp {π : Sh} {D V A : Int} (hN : 3000 ≤ N) : ∀ (m n n' : Nat) (σ τ : St) (p : Int), (4 - p).toNat = m → m + 1 < n → m + 1 < n' → HI π σ τ D V p → fl σ 21 D = A → ∃ σ' τ', Rd_header_84 N n π σ p = some (π, σ') ∧ r_head_75 N n' τ V = some τ' ∧ HFc D A σ σ' ∧ HFr τ τ' ∧ i32 (fl σ' 185 1) ∧ (FLT σ' τ' ∨ ∃ p', HI π σ' τ' D V p' ∧ fl τ 4 0 + 1 ≤ fl τ' 4 0) := by
  intro m
  induction m with
  | zero => ?_
  | succ m ih => ?_
  all_goals
    intro n n' σ τ p hm hn hn' h hA
    obtain ⟨n, rfl⟩ : ∃ q, n = q + 1 := ⟨n - 1, by omega⟩
    obtain ⟨n', rfl⟩ : ∃ q, n' = q + 1 := ⟨n' - 1, by omega⟩
    have h' := h
    obtain ⟨⟨a1, a2, a3⟩, ⟨b1, b2, b3, b4⟩, ⟨c1, c2, c3⟩, d, e, t, ⟨f1, f2⟩, g, v1, v2⟩ := h
    have kd := t.kd
    have ip : i32 p := ⟨by omega, by omega⟩
    -- a fault 2
    have flt2 : FLT (sf (sf σ 182 1 2) 183 1 (fl σ 186 1)) (sf (sf τ 11 0 2) 12 0 (fl τ 4 0)) := ⟨by rw [fl_sfn _ _ _ _ (by decide), fl_sfs, fl_sfn _ _ _ _ (by decide), fl_sfs], by rw [fl_sfs, fl_sfs]; exact t.2.1, by rw [fl_sfn _ _ _ _ (by decide), fl_sfs]; decide⟩
    have hfc : ∀ x y : Int, HFc D A σ (sf (sf σ 182 1 x) 183 1 y) := fun x y => ⟨fun f i h1 h2 => by rw [fl_sf, if_neg (by omega), fl_sf, if_neg (by omega)], rfl, fun _ _ _ => rfl⟩
    have hfr : ∀ x y : Int, HFr τ (sf (sf τ 11 0 x) 12 0 y) := fun x y => ⟨fun f i h1 h2 => by rw [fl_sf, if_neg (by omega), fl_sf, if_neg (by omega)], fun _ _ _ _ => rfl⟩
    have i185 : ∀ x y : Int, i32 (fl (sf (sf σ 182 1 x) 183 1 y) 185 1) := fun x y => by rw [fl_sfn _ _ _ _ (by decide), fl_sfn _ _ _ _ (by decide)]; exact kd.1
    have cf2 : Rd_header_144 N π σ = some (π, sf (sf σ 182 1 2) 183 1 (fl σ 186 1)) := by rw [Rd_header_144, Sc_fail, f1, grd_t (by decide), if_pos rfl, Option.bind_some]
    have rf2 : r_head_140 N τ = some (sf (sf τ 11 0 2) 12 0 (fl τ 4 0)) := by rw [r_head_140, r_fail, f2, grd_t (by decide), if_pos rfl, Option.bind_some]
    by_cases k1 : fl σ 185 1 = 1
    · have k2 : fl τ 3 0 = 2 := kd.2.2.1.1 k1
      obtain ⟨hn, f, fr, fc, ff⟩ := t.nm (N := N) (π := π) hN g k1
      obtain ⟨⟨-, i1⟩, i2, i3⟩ := hn.i
      obtain ⟨⟨-, j1⟩, j2, j3⟩ := e.i
      have iff : i32 f := ⟨by omega, by omega⟩
      have hC : Rd_header_84 N (n + 1) π σ p = if f < 0 then (Option.bind (Df_hasName N π σ D (fl σ 188 1)) (fun r39 => grd (ob π D 1) (grd (i32 r39.2) (if r39.2 = 0 then grd (ob π (fl r39.1 144 44) 1) (grd (i32 (fl r39.1 22 (fl r39.1 144 44))) (if (fl r39.1 22 (fl r39.1 144 44)) < 4 then grd (ob π (fl r39.1 21 (fl r39.1 144 44)) 23) (grd (ina π (fl r39.1 21 (fl r39.1 144 44)) (fl r39.1 22 (fl r39.1 144 44))) (bnd (sf (se r39.1 (fl r39.1 21 (fl r39.1 144 44)) (fl r39.1 22 (fl r39.1 144 44)) (fl r39.1 188 1)) 22 (fl r39.1 144 44) ((fl r39.1 22 (fl r39.1 144 44)) + 1)) (fun σ51 => Option.bind (Sc_advance N π σ51) (fun r54 => (Rd_header_84 N n) π r54 (p + 1))))) else Rd_header_144 N π r39.1)) else Rd_header_144 N π r39.1)))) else Rd_header_144 N π σ := by
        rw [Rd_header_84, grd_t ip, if_pos (by omega), grd_t kd.1, if_pos k1, fc, Option.bind_some]
        simp only
        rw [grd_t iff, a3]
      have hR : r_head_75 N (n' + 1) τ V = if f < 0 then (if fl τ 7 0 = el τ 83 V then (if fl τ 8 0 = el τ 82 V then r_head_140 N τ else r_head_125 N (r_head_75 N n') τ V) else r_head_125 N (r_head_75 N n') τ V) else r_head_140 N τ := by
        rw [r_head_75, f2, grd_t (by decide), if_pos rfl, k2, grd_t (by decide), if_pos rfl, ff, Option.bind_some]
        simp only
        rw [grd_t iff, grd_t (by exact ⟨v1, v2⟩), grd_t i2, grd_t j2, grd_t i3, grd_t j3]
      rw [hC, hR]
      by_cases cf : f < 0
      · rw [if_pos cf, if_pos cf]
        by_cases cn : fl σ 20 D = fl σ 188 1
        · obtain ⟨w1, w2⟩ := (e.eq hn).1 cn
          refine ⟨_, _, ?_, ?_, hfc _ _, hfr _ _, i185 _ _, Or.inl flt2⟩
          · rw [Df_hasName, grd_t a1, grd_t j1, grd_t i1, if_pos cn, Df_hasName_17, Option.bind_some, grd_t a1]
            simp only
            rw [grd_t (by decide), if_neg (by decide)]
            exact cf2
          · rw [if_pos w1.symm, if_pos w2.symm]
            exact rf2
        · have hR2 : (if fl τ 7 0 = el τ 83 V then (if fl τ 8 0 = el τ 82 V then r_head_140 N τ else r_head_125 N (r_head_75 N n') τ V) else r_head_125 N (r_head_75 N n') τ V) = r_head_125 N (r_head_75 N n') τ V := by
            by_cases w1 : fl τ 7 0 = el τ 83 V
            · by_cases w2 : fl τ 8 0 = el τ 82 V
              · exact absurd ((e.eq hn).2 ⟨w1.symm, w2.symm⟩) cn
              · rw [if_pos w1, if_neg w2]
            · rw [if_neg w1]
          rw [hR2]
          obtain ⟨q, q1, q2, q3⟩ := param_both (N := N) a1 ⟨b1, b4, b3⟩ b2 ⟨c1, c2⟩ hn d _ N N 0 (Int.le_refl _) rfl (by omega) (by omega) (by omega)
          have iq : i32 q := ⟨by omega, by omega⟩
          rw [Df_hasName, grd_t a1, grd_t j1, grd_t i1, if_neg cn, Df_parameterIndex, q2, Option.bind_some]
          simp only
          rw [grd_t iq, r_head_125, r_paramHere, q3, Option.bind_some]
          simp only
          rw [grd_t iq]
          by_cases cq : q < 0
          · rw [if_pos cq, if_pos cq, Option.bind_some, grd_t a1]
            simp only
            rw [grd_t (by decide), if_pos trivial, a3, grd_t a1, b1, grd_t ip, b2, grd_t ip]
            by_cases c4 : p < 4
            · rw [if_pos c4, grd_t c1, grd_t (by exact ⟨b3, by rw [c2]; omega, by omega⟩), if_neg (by omega), grd_t (by exact ⟨b3, by omega⟩)]
              simp only [bnd]
              first
              | (exfalso; omega)
              | (obtain ⟨σ1, hσ1⟩ : ∃ σ1, σ1 = sf (se σ (fl σ 21 D) p (fl σ 188 1)) 22 D (p + 1) := ⟨_, rfl⟩
                 obtain ⟨τ1, hτ1⟩ : ∃ τ1, τ1 = sf (se (se τ 76 p (fl τ 7 0)) 75 p (fl τ 8 0)) 38 0 (p + 1) := ⟨_, rfl⟩
                 rw [← hσ1, ← hτ1]
                 have s1 : ∀ (f : Nat) (i : Int), ¬ (i = D ∧ f = 22) → fl σ1 f i = fl σ f i := fun f i hx => by rw [hσ1, fl_sf, if_neg (by omega), fl_se]
                 have s2 : ∀ a j : Int, ¬ (a = A ∧ j = p) → el σ1 a j = el σ a j := fun a j hx => by rw [hσ1, el_sf, hA, el_se, if_neg hx]
                 have u1 : ∀ (f : Nat) (i : Int), f ≠ 38 → fl τ1 f i = fl τ f i := fun f i hx => by rw [hτ1, fl_sfn _ _ _ _ hx, fl_se, fl_se]
                 have u2 : ∀ a j : Int, ¬ ((a = 75 ∨ a = 76) ∧ j = p) → el τ1 a j = el τ a j := fun a j hx => by rw [hτ1, el_sf, el_se, if_neg (by omega), el_se, if_neg (by omega)]
                 have t1 : TKr σ1 τ1 := t.cg (fun f hf => s1 f 1 (by omega)) (fun j => s2 2 j (by omega)) (fun f hf => u1 f 0 (by omega)) (fun j => u2 97 j (by omega))
                 have k1' : fl σ1 185 1 = 1 := by rw [s1 185 1 (by omega)]; exact k1
                 obtain ⟨σ2, τ2, z1, z2, z3, z4, z5, z6, z7, z8⟩ := both_advance (N := N) (π := π) hN t1 (by omega)
                 rw [z1, z2, Option.bind_some, Option.bind_some]
                 have w20 : ∀ f : Nat, f ≠ 22 → fl σ2 f D = fl σ f D := fun f hf => by rw [z3.1 f D (by omega), s1 f D (by omega)]
                 have hi2 : HI π σ2 τ2 D V (p + 1) := by
                   refine ⟨⟨a1, a2, by rw [z3.1 144 44 (by omega), s1 144 44 (by omega)]; exact a3⟩, ⟨by rw [z3.1 22 D (by omega), hσ1, fl_sfs], by rw [z4.1 38 0 (by omega), hτ1, fl_sfs], by omega, by omega⟩, by rw [w20 21 (by decide)]; exact ⟨c1, c2, c3⟩, ?_, ?_, z5, ⟨by rw [z3.1 182 1 (by omega), s1 182 1 (by omega)]; exact f1, by rw [z4.1 11 0 (by omega), u1 11 0 (by decide)]; exact f2⟩, ⟨?_, ?_⟩, v1, v2⟩
                   · intro i i0 i1'
                     rw [w20 21 (by decide), z3.2, z4.2, z4.2]
                     by_cases ci : i = p
                     · rw [ci, hσ1, el_sf, el_ses, hτ1, el_sf, el_sf, el_ses, el_sen _ _ _ _ (by decide), el_ses]
                       exact hn
                     · rw [s2 _ _ (by omega), u2 _ _ (by omega), u2 _ _ (by omega)]
                       exact d i i0 (by omega)
                   · rw [w20 20 (by decide), z4.2, z4.2, u2 _ _ (by omega), u2 _ _ (by omega)]
                     exact e
                   · have gg := g.1
                     unfold FNc at gg ⊢
                     exact gg.mono (fun i e _ _ _ hq => by rw [z3.2, s2 _ _ (by omega)]; exact hq)
                   · have gg := g.2
                     unfold FNr at gg ⊢
                     exact gg.mono (fun i e _ _ _ hq => by rw [z4.2, u2 _ _ (by omega)]; exact hq)
                 obtain ⟨σ3, τ3, y1, y2, y3, y4, y7, y5⟩ := ih n n' σ2 τ2 (p + 1) (by omega) (by omega) (by omega) hi2 (by rw [w20 21 (by decide)]; exact hA)
                 refine ⟨σ3, τ3, y1, y2, ⟨fun f i x1 x2 => by rw [y3.1 f i x1 x2, z3.1 f i (by omega), s1 f i (by omega)], by rw [y3.2.1, z3.1 184 1 (by omega), s1 184 1 (by omega)], fun a j x1 => by rw [y3.2.2 a j x1, z3.2, s2 _ _ (by omega)]⟩, ⟨fun f i x1 x2 => by rw [y4.1 f i x1 x2, z4.1 f i (by omega), u1 f i (by omega)], fun a j x1 x2 => by rw [y4.2 a j x1 x2, z4.2, u2 _ _ (by omega)]⟩, y7, ?_⟩
                 rcases y5 with y5 | ⟨p', y5, y6⟩
                 · exact Or.inl y5
                 · refine Or.inr ⟨p', y5, ?_⟩
                   have := u1 4 0 (by decide)
                   omega)
            · rw [if_neg c4, if_pos (by omega)]
              exact ⟨_, _, cf2, rf2, hfc _ _, hfr _ _, i185 _ _, Or.inl flt2⟩
          · rw [if_neg cq, if_neg cq, Df_hasName_17, Option.bind_some, grd_t a1]
            simp only
            rw [grd_t (by decide), if_neg (by decide)]
            exact ⟨_, _, cf2, rf2, hfc _ _, hfr _ _, i185 _ _, Or.inl flt2⟩
      · rw [if_neg cf, if_neg cf]
        exact ⟨_, _, cf2, rf2, hfc _ _, hfr _ _, i185 _ _, Or.inl flt2⟩
    · -- no name: the sign =
      have k2 : ¬ fl τ 3 0 = 2 := fun q => k1 (kd.2.2.1.2 q)
      have hC : Rd_header_84 N (n + 1) π σ p = Rd_header_208 N π σ := by
        rw [Rd_header_84, grd_t ip, if_pos (by omega), grd_t kd.1, if_neg k1]
      have hR : r_head_75 N (n' + 1) τ V = r_head_193 N τ := by
        rw [r_head_75, f2, grd_t (by decide), if_pos rfl, grd_t (by exact ⟨by omega, by omega⟩), if_neg k2]
      have sg := t.sign (N := N) (c := 61) (by unfold isSgB isOpB; omega)
      rw [hC, hR, Rd_header_208, Rd_expect, grd_t kd.1, grd_t (by decide), r_head_193, f2, grd_t (by decide), if_pos rfl, sg, Option.bind_some]
      simp only
      by_cases c61 : fl σ 185 1 = 61
      · rw [if_pos c61, if_pos c61, grd_t (by decide), if_neg (by decide)]
        obtain ⟨σ2, τ2, z1, z2, z3, z4, z5, z6, z7, z8⟩ := both_advance (N := N) (π := π) hN t (by omega)
        rw [z1, z2, Option.bind_some, Option.bind_some, Option.bind_some]
        refine ⟨σ2, τ2, rfl, rfl, ⟨fun f i x1 x2 => z3.1 f i (by omega), z3.1 184 1 (by omega), fun a j _ => z3.2 a j⟩, ⟨fun f i x1 x2 => z4.1 f i (by omega), fun a j _ _ => z4.2 a j⟩, z5.kd.1, Or.inr ⟨p, ⟨⟨a1, a2, by rw [z3.1 144 44 (by omega)]; exact a3⟩, ⟨by rw [z3.1 22 D (by omega)]; exact b1, by rw [z4.1 38 0 (by omega)]; exact b2, b3, b4⟩, by rw [z3.1 21 D (by omega)]; exact ⟨c1, c2, c3⟩, fun i i0 i1 => by rw [z3.1 21 D (by omega), z3.2, z4.2, z4.2]; exact d i i0 i1, by rw [z3.1 20 D (by omega), z4.2, z4.2]; exact e, z5, ⟨by rw [z3.1 182 1 (by omega)]; exact f1, by rw [z4.1 11 0 (by omega)]; exact f2⟩, ⟨?_, ?_⟩, v1, v2⟩, by omega⟩⟩
        · have gg := g.1
          unfold FNc at gg ⊢
          exact gg.mono (fun i e _ _ _ hq => by rw [z3.2]; exact hq)
        · have gg := g.2
          unfold FNr at gg ⊢
          exact gg.mono (fun i e _ _ _ hq => by rw [z4.2]; exact hq)
      · rw [if_neg c61, if_neg c61, grd_t (by decide), if_pos rfl, Sc_fail, f1, grd_t (by decide), if_pos rfl, r_fail, f2, grd_t (by decide), if_pos rfl, Option.bind_some, Option.bind_some, Option.bind_some]
        exact ⟨_, _, rfl, rfl, hfc _ _, hfr _ _, i185 _ _, Or.inl ⟨by rw [fl_sfn _ _ _ _ (by decide), fl_sfs, fl_sfn _ _ _ _ (by decide), fl_sfs], by rw [fl_sfs, fl_sfs]; exact t.2.1, by rw [fl_sfn _ _ _ _ (by decide), fl_sfs]; decide⟩⟩
/-- what a head leaves alone -/
def HGc (π : Sh) (σ : St) (π' : Sh) (σ' : St) : Prop := ext π π' ∧ (nn π' ≤ nn π + 4 ∧ sw π' ≤ sw π + 17) ∧ (∀ (f : Nat) (i : Int), i < nn π → ¬ (i = 1 ∧ 182 ≤ f ∧ f ≤ 190) → ¬ (i = 44 ∧ f = 144) → fl σ' f i = fl σ f i) ∧ (fl σ' 184 1 = fl σ 184 1) ∧ ∀ a j : Int, a < nn π → el σ' a j = el σ a j
def HGr (τ τ' : St) : Prop := (∀ (f : Nat) (i : Int), ¬ (3 ≤ f ∧ f ≤ 12) → f ≠ 38 → fl τ' f i = fl τ f i) ∧ ∀ a j : Int, a ≠ 75 → a ≠ 76 → ¬ ((a = 82 ∨ a = 83) ∧ j = fl τ 28 0) → el τ' a j = el τ a j
theorem both_head {π : Sh} {σ τ : St} (hN : 3000 ≤ N) (hS : SHs π) (t : TKr σ τ) (f1 : fl σ 182 1 = 0) (f2 : fl τ 11 0 = 0) (g : FNc σ ∧ FNr τ) (hV : 0 ≤ fl τ 28 0 ∧ fl τ 28 0 < 6000) : ∃ π' σ' τ', Rd_header N π σ = some (π', σ') ∧ r_head N τ = some τ' ∧ HGc π σ π' σ' ∧ HGr τ τ' ∧ i32 (fl σ' 185 1) ∧ (FLT σ' τ' ∨ ∃ p, HI π' σ' τ' (nn π) (fl τ 28 0) p ∧ fl τ 4 0 + 2 ≤ fl τ' 4 0 ∧ fl σ' 23 (nn π) = nn π + 2 ∧ fl σ' 24 (nn π) = nn π + 3 ∧ (ob π' (nn π + 2) 0 ∧ fl σ' 1 (nn π + 2) = -1 ∧ fl σ' 2 (nn π + 2) = 0) ∧ (ob π' (nn π + 3) 0 ∧ fl σ' 1 (nn π + 3) = -1 ∧ fl σ' 2 (nn π + 3) = 0) ∧ nn π' = nn π + 4) := by
  have h56 := hS.1
  have kd := t.kd
  have hfc : ∀ x y : Int, HGc π σ π (sf (sf σ 182 1 x) 183 1 y) := fun x y => ⟨ext.rf _, ⟨by omega, by omega⟩, fun f i _ h1 h2 => by rw [fl_sf, if_neg (by omega), fl_sf, if_neg (by omega)], rfl, fun _ _ _ => rfl⟩
  have i185 : ∀ x y : Int, i32 (fl (sf (sf σ 182 1 x) 183 1 y) 185 1) := fun x y => by rw [fl_sfn _ _ _ _ (by decide), fl_sfn _ _ _ _ (by decide)]; exact kd.1
  rw [Rd_header, grd_t kd.1, r_head, grd_t (by exact ⟨by omega, by omega⟩)]
  by_cases k1 : fl σ 185 1 = 1
  · have k2 : fl τ 3 0 = 2 := kd.2.2.1.1 k1
    rw [if_pos k1, if_pos k2]
    obtain ⟨τ0, hτ0⟩ : ∃ τ0, τ0 = sf τ 38 0 0 := ⟨_, rfl⟩
    have u0 : ∀ (f : Nat) (i : Int), f ≠ 38 → fl τ0 f i = fl τ f i := fun f i hx => by rw [hτ0, fl_sfn _ _ _ _ hx]
    have w0 : ∀ a j : Int, el τ0 a j = el τ a j := fun a j => by rw [hτ0]; rfl
    have t0 : TKr σ τ0 := t.cg (fun _ _ => rfl) (fun _ => rfl) (fun f hf => u0 f 0 (by omega)) (fun j => w0 97 j)
    have gr0 : FNr τ0 := by
      have gg := g.2
      unfold FNr at gg ⊢
      exact gg.mono (fun i e _ _ _ hq => by rw [w0]; exact hq)
    obtain ⟨hn, f, fr, fc, ff⟩ := t0.nm (N := N) (π := π) hN ⟨g.1, gr0⟩ k1
    have iff : i32 f := ⟨by omega, by omega⟩
    simp only [bnd]
    rw [← hτ0, fc, ff, Option.bind_some, Option.bind_some]
    simp only
    rw [grd_t iff, grd_t iff]
    by_cases cf : f < 0
    · rw [if_pos cf, if_pos cf]
      obtain ⟨π1, σ1, n1, n2, n3, n4, n5, n6, ⟨d1, d2, d3, d4, d5, d6, d7⟩, ⟨d8, d9⟩, d10, d11⟩ := c_newdef (N := N) (π := π) (σ := σ) (nm := fl (zO σ (nn π) dfl) 188 1)
      have nm' : fl (zO σ (nn π) dfl) 188 1 = fl σ 188 1 := by rw [fl_zO, if_neg (by omega)]
      rw [nm'] at d2
      obtain ⟨σ2, hσ2⟩ : ∃ σ2, σ2 = sf σ1 144 44 (nn π) := ⟨_, rfl⟩
      have s2 : ∀ (f : Nat) (i : Int), ¬ (i = 44 ∧ f = 144) → fl σ2 f i = fl σ1 f i := fun f i hx => by rw [hσ2, fl_sf, if_neg (by omega)]
      have r2 : ∀ a j : Int, el σ2 a j = el σ1 a j := fun a j => by rw [hσ2]; rfl
      have s2' : ∀ (f : Nat) (i : Int), i < nn π → ¬ (i = 44 ∧ f = 144) → fl σ2 f i = fl σ f i := fun f i hi hx => by rw [s2 f i hx, n5 f i hi]
      obtain ⟨τ2, hτ2⟩ : ∃ τ2, τ2 = se (se τ0 83 (fl τ 28 0) (fl τ0 7 0)) 82 (fl τ 28 0) (fl τ0 8 0) := ⟨_, rfl⟩
      have u2 : ∀ (f : Nat) (i : Int), fl τ2 f i = fl τ0 f i := fun f i => by rw [hτ2]; rfl
      have w2 : ∀ a j : Int, ¬ ((a = 82 ∨ a = 83) ∧ j = fl τ 28 0) → el τ2 a j = el τ0 a j := fun a j hx => by rw [hτ2, el_se, if_neg (by omega), el_se, if_neg (by omega)]
      have t2 : TKr σ2 τ2 := t0.cg (fun f hf => s2' f 1 (by omega) (by omega)) (fun j => by rw [r2, n6 2 j (by omega)]) (fun f hf => u2 f 0) (fun j => w2 97 j (by omega))
      have k1' : fl σ2 185 1 = 1 := by rw [s2' 185 1 (by omega) (by omega)]; exact k1
      obtain ⟨σ3, τ3, z1, z2, z3, z4, z5, z6, z7, -⟩ := both_advance (N := N) (π := π1) hN t2 (by omega)
      have D56 : (56 : Int) ≤ nn π := by omega
      have sD : ∀ (f : Nat) (i : Int), nn π ≤ i → fl σ3 f i = fl σ1 f i := fun f i hi => by rw [z3.1 f i (by omega), s2 f i (by omega)]
      have hi3 : HI π1 σ3 τ3 (nn π) (fl τ 28 0) 0 := by
        refine ⟨⟨d1, D56, by rw [z3.1 144 44 (by omega), hσ2, fl_sfs]⟩, ⟨by rw [sD 22 _ (Int.le_refl _)]; exact d4, by rw [z4.1 38 0 (by omega), u2, hτ0, fl_sfs], by omega, by omega⟩, by rw [sD 21 _ (Int.le_refl _), d3]; exact ⟨d8, d9, by omega⟩, fun i i0 i1 => by omega, ?_, z5, ⟨by rw [z3.1 182 1 (by omega), s2' 182 1 (by omega) (by omega)]; exact f1, by rw [z4.1 11 0 (by omega), u2, u0 11 0 (by decide)]; exact f2⟩, ⟨?_, ?_⟩, hV⟩
        · rw [sD 20 _ (Int.le_refl _), d2, z4.2, z4.2, hτ2, el_ses, el_sen _ _ _ _ (by decide), el_ses]
          exact hn
        · have gg := g.1
          unfold FNc at gg ⊢
          exact gg.mono (fun i e _ _ _ hq => by rw [z3.2, r2, n6 45 i (by omega)]; exact hq)
        · have gg := gr0
          unfold FNr at gg ⊢
          exact gg.mono (fun i e _ _ _ hq => by rw [z4.2, w2 _ _ (by omega)]; exact hq)
      obtain ⟨σ4, τ4, y1, y2, y3, y4, y5, y6⟩ := hd_lp (N := N) (π := π1) (D := nn π) (V := fl τ 28 0) (A := fl σ3 21 (nn π)) hN 4 N N σ3 τ3 0 (by decide) (by omega) (by omega) hi3 rfl
      have a21 : fl σ3 21 (nn π) = nn π + 1 := by rw [sD 21 _ (Int.le_refl _)]; exact d3
      rw [a21] at y3
      refine ⟨π1, σ4, τ4, ?_, ?_, ⟨n2, ⟨by omega, by omega⟩, fun f i hi h1 h2 => ?_, ?_, fun a j ha => ?_⟩, ⟨fun f i h1 h2 => ?_, fun a j h1 h2 h3 => ?_⟩, y5, ?_⟩
      · rw [Rd_header_61, n1, Option.bind_some]
        simp only
        rw [grd_t (by exact ob_nO π 1 7), Rd_header_72, bnd, ← hσ2, z1, Option.bind_some]
        exact y1
      · rw [r_head_44, grd_t (by exact ⟨hV.1, hV.2⟩), u0 11 0 (by decide), f2, grd_t (by decide), if_pos rfl]
        simp only [bnd]
        rw [← hτ2, z2, Option.bind_some]
        exact y2
      · rw [y3.1 f i h1 (by omega), z3.1 f i (by omega), s2' f i hi (by omega)]
      · rw [y3.2.1, z3.1 184 1 (by omega), s2' 184 1 (by omega) (by omega)]
      · rw [y3.2.2 a j (by omega), z3.2, r2, n6 a j ha]
      · rw [y4.1 f i h1 h2, z4.1 f i (by omega), u2, u0 f i h2]
      · rw [y4.2 a j h1 h2, z4.2, w2 a j h3, w0]
      · rcases y6 with y6 | ⟨p, y6, y7⟩
        · exact Or.inl y6
        · refine Or.inr ⟨p, y6, ?_, ?_, ?_, ⟨d10.1, ?_, ?_⟩, ⟨d11.1, ?_, ?_⟩, n3⟩
          · have e4 : fl τ2 4 0 = fl τ 4 0 := by rw [u2, u0 4 0 (by decide)]
            omega
          · rw [y3.1 23 _ (by omega) (by omega), sD 23 _ (Int.le_refl _)]; exact d5
          · rw [y3.1 24 _ (by omega) (by omega), sD 24 _ (Int.le_refl _)]; exact d6
          · rw [y3.1 1 _ (by omega) (by omega), sD 1 _ (by omega)]; exact d10.2.1
          · rw [y3.1 2 _ (by omega) (by omega), sD 2 _ (by omega)]; exact d10.2.2
          · rw [y3.1 1 _ (by omega) (by omega), sD 1 _ (by omega)]; exact d11.2.1
          · rw [y3.1 2 _ (by omega) (by omega), sD 2 _ (by omega)]; exact d11.2.2
    · -- a function's name
      rw [if_neg cf, if_neg cf, Sc_fail, f1, grd_t (by decide), if_pos rfl, Option.bind_some, r_fail, u0 11 0 (by decide), f2, grd_t (by decide), if_pos rfl, Option.bind_some]
      obtain ⟨τ1, hτ1⟩ : ∃ τ1, τ1 = sf (sf τ0 11 0 2) 12 0 (fl τ0 4 0) := ⟨_, rfl⟩
      rw [← hτ1]
      have e11 : fl τ1 11 0 = 2 := by rw [hτ1, fl_sfn _ _ _ _ (by decide), fl_sfs]
      obtain ⟨τ2, hτ2⟩ : ∃ τ2, τ2 = se (se τ1 83 (fl τ 28 0) (fl τ1 7 0)) 82 (fl τ 28 0) (fl τ1 8 0) := ⟨_, rfl⟩
      have e11' : fl τ2 11 0 = 2 := by rw [hτ2]; exact e11
      refine ⟨π, _, τ2, rfl, ?_, hfc _ _, ⟨fun f i h1 h2 => ?_, fun a j h1 h2 h3 => ?_⟩, i185 _ _, Or.inl ⟨?_, ?_, ?_⟩⟩
      · obtain ⟨n, rfl⟩ : ∃ n, N = n + 1 := ⟨N - 1, by omega⟩
        rw [r_head_44, grd_t (by exact ⟨hV.1, hV.2⟩), e11, grd_t (by decide), if_neg (by decide), ← hτ2, r_head_75, e11', grd_t (by decide), if_neg (by decide), r_head_193, e11', grd_t (by decide), if_neg (by decide)]
      · have : fl τ2 f i = fl τ1 f i := by rw [hτ2]; rfl
        rw [this, hτ1, fl_sfn _ _ _ _ (by omega), fl_sfn _ _ _ _ (by omega), u0 f i h2]
      · rw [hτ2, el_se, if_neg (by omega), el_se, if_neg (by omega), hτ1, el_sf, el_sf, w0]
      · rw [fl_sfn _ _ _ _ (by decide), fl_sfs, e11']
      · have : fl τ2 12 0 = fl τ1 12 0 := by rw [hτ2]; rfl
        rw [fl_sfs, this, hτ1, fl_sfs, u0 4 0 (by decide)]
        exact t.2.1
      · rw [e11']; decide
  · have k2 : ¬ fl τ 3 0 = 2 := fun q => k1 (kd.2.2.1.2 q)
    rw [if_neg k1, if_neg k2]
    simp only [bnd]
    rw [Sc_fail, f1, grd_t (by decide), if_pos rfl, Option.bind_some, r_fail, fl_sfn _ _ _ _ (by decide), f2, grd_t (by decide), if_pos rfl, Option.bind_some]
    refine ⟨π, _, _, rfl, rfl, hfc _ _, ⟨fun f i h1 h2 => ?_, fun a j h1 h2 h3 => rfl⟩, i185 _ _, Or.inl ⟨?_, ?_, ?_⟩⟩
    · rw [fl_sfn _ _ _ _ (by omega), fl_sfn _ _ _ _ (by omega), fl_sfn _ _ _ _ h2]
    · rw [fl_sfn _ _ _ _ (by decide), fl_sfs, fl_sfn _ _ _ _ (by decide), fl_sfs]
    · rw [fl_sfs, fl_sfs]; exact t.2.1
    · rw [fl_sfn _ _ _ _ (by decide), fl_sfs]; decide
end HD9
