/-! the parts of a text that hold no parts -/
def RmX (x : Int) (π : Sh) (σ : St) (π' : Sh) (σ' : St) (A B : Int) : Prop := (nn π' : Int) ≤ nn π + A ∧ (sw π' : Int) + 4 * cpc π σ x ≤ sw π + 4 * cpc π' σ' x + B
theorem RmX.tr {x A B A' B' : Int} {π π1 π2 : Sh} {σ σ1 σ2 : St} (h : RmX x π σ π1 σ1 A B) (k : RmX x π1 σ1 π2 σ2 A' B') : RmX x π σ π2 σ2 (A + A') (B + B') := ⟨by have := h.1; have := k.1; omega, by have := h.2; have := k.2; omega⟩
theorem RmX.mono {x A B A' B' : Int} {π π1 : Sh} {σ σ1 : St} (h : RmX x π σ π1 σ1 A B) (h1 : A ≤ A') (h2 : B ≤ B') : RmX x π σ π1 σ1 A' B' := ⟨by have := h.1; omega, by have := h.2; omega⟩
/-- the class's side of a text, also behind a fault -/
def XC (Xo : Int → Prop) (π : Sh) (σ τ : St) (D P : Int) (L : List Stq) (Kn : List Int) (st cl : Int) : Prop := SHs π ∧ XB σ τ st cl ∧ fl σ 221 50 = D ∧ BDy Xo π σ τ D P L Kn
theorem XS.xc {Xo : Int → Prop} {π : Sh} {σ τ : St} {D P st cl : Int} {L : List Stq} {Kn : List Int} (h : XS Xo π σ τ D P L Kn st cl) : XC Xo π σ τ D P L Kn st cl := ⟨h.1, h.2.1, h.2.2.2.2.2.2.1, h.2.2.2.2.2.2.2.1⟩
/-- how a part of a text ends -/
def PTo (Xo : Int → Prop) (N : Nat) (D P : Int) (L : List Stq) (Kn : List Int) (st cl d : Int) (π : Sh) (σ τ : St) (π' : Sh) (σ' τ' : St) (o : Int) : Prop := XFt (fl σ 23 D) π σ π' σ' ∧ RDr (fl τ 16 0) d τ τ' ∧
  ((FLT σ' τ' ∧ (∃ L', XC Xo π' σ' τ' D P L' Kn st cl ∧ (L'.length : Int) ≤ L.length + 2 * (cl + 1 - fl τ 2 0)) ∧ RmX (fl σ 23 D) π σ π' σ' (12 * (cl + 1 - fl τ 2 0) + 20 * (21 - fl τ 13 0)) (100 * (cl + 1 - fl τ 2 0) + 200 * (21 - fl τ 13 0))) ∨
   ∃ seg n, XS Xo π' σ' τ' D P (L ++ seg) Kn st cl ∧ fl τ' 41 0 = d ∧ fl τ' 46 0 = n ∧ fl τ' 13 0 = fl τ 13 0 ∧ (fl τ 16 0 ≤ n ∧ n < fl τ' 16 0) ∧ (20 ≤ el τ' 94 n ∧ el τ' 94 n ≤ 31 ∧ el τ' 94 n ≠ 24) ∧ TXq N τ' (fl τ 16 0) (fl τ' 16 0) P L.length seg n o (fl τ' 2 0 - fl τ 2 0 + 6 * (21 - fl τ 13 0)) (fl τ' 2 0 - fl τ 2 0) (12 * (fl τ' 2 0 - fl τ 2 0) - 1).toNat ∧ fl τ 2 0 < fl τ' 2 0 ∧ fl τ' 16 0 + 1 ≤ fl τ 16 0 + 3 * (fl τ' 2 0 - fl τ 2 0) ∧ (seg.length : Int) ≤ 2 * (fl τ' 2 0 - fl τ 2 0) ∧ RmX (fl σ 23 D) π σ π' σ' (12 * (fl τ' 2 0 - fl τ 2 0) - 4) (100 * (fl τ' 2 0 - fl τ 2 0) - 50))
theorem mkCK {π : Sh} {σ : St} {s K place A B C E cnt wd us a b c d : Int} {ops : List Kid} (hF : FSp σ s (kcO K) place A B C E cnt wd us) (h212 : fl σ 212 s < 0) (hK : ¬ (K = 4 ∨ K = 6 ∨ K = 7)) (h1 : K = 1 → RV wd 0 0 (a, b, 0, 1)) (h2 : K ≠ 1 → K ≠ 3 → K ≠ 5 → A = if K = 11 then -a else a) (h3 : 7 ≤ K → B = if K = 21 ∨ K = 22 then 1000003 * b else b) (h4 : K = 8 ∨ K = 16 ∨ K = 20 → C = c) (h5 : K = 16 ∨ K = 20 → E = d) : CKx π σ s K a b c d ops := by
  obtain ⟨f0, f1, f2, f3, f4, f5, f6, f7, f8⟩ := hF
  refine ⟨f0, fun h => by rw [f7]; exact h1 h, fun x y z => ?_, fun h => ?_, fun h => by rw [f4]; exact h4 h, fun h => by rw [f5]; exact h5 h, fun h => absurd h hK, fun _ => h212⟩
  · rw [f2, h2 x y z]
    by_cases c11 : K = 11
    · rw [if_pos c11, if_pos c11]
    · rw [if_neg c11, if_neg c11, if_neg hK]
  · rw [f3, h3 h, if_neg (show ¬ K = 7 by omega)]
theorem mkSR {π : Sh} {σ : St} {n0 s K place a b c d cnt : Int} {ops : List Kid} (hO : OPs π σ n0 s ops) (h56 : 56 ≤ n0) (hl : ops.length ≤ 2000) (hk : CKx π σ s K a b c d ops) (h1 : fl σ 201 s = place) (h2 : fl σ 206 s = cnt ∧ (cnt = 0 ∨ cnt = 1)) : SRq π σ s K place a b c d cnt ops := by
  obtain ⟨o1, o2, o3, o4, o5, o6, o7, o8⟩ := hO
  exact ⟨o1, hk, h1, h2, o3, hl, o4, o6, by omega, by omega, o8⟩
section LF
variable {N : Nat} {Xo : Int → Prop}
theorem own_new {π : Sh} {σ : St} {n0 s : Int} {ops : List Kid} (h : OPs π σ n0 s ops) (h7 : fl σ 211 s = -1 ∧ fl σ 212 s = -1 ∧ fl σ 213 s = -1) : n0 ≤ s ∧ ∀ f : Nat, 210 ≤ f → f ≤ 213 → fl σ f s < nn π ∧ (n0 ≤ fl σ f s ∨ fl σ f s < 56) := by
  refine ⟨h.2.1, fun f f1 f2 => ?_⟩
  rcases (show f = 210 ∨ f = 211 ∨ f = 212 ∨ f = 213 by omega) with rfl | rfl | rfl | rfl
  · exact ⟨h.2.2.2.1.2.1, Or.inl h.2.2.2.2.1⟩
  · rw [h7.1]; exact ⟨by omega, Or.inr (by omega)⟩
  · rw [h7.2.1]; exact ⟨by omega, Or.inr (by omega)⟩
  · rw [h7.2.2]; exact ⟨by omega, Or.inr (by omega)⟩
/-- a new step is added to the body -/
theorem c_addNew {π π1 : Sh} {σ σ1 τ : St} {D P s : Int} {L : List Stq} {Kn : List Int} {x : Stq} (hS : SHs π) (h : BDy Xo π σ τ D P L Kn) (hL : L.length ≤ 20000) (hf : FRn (nn π) π σ π1 σ1) (hx : SQ π1 σ1 s x) (hw : nn π ≤ s ∧ ∀ f : Nat, 210 ≤ f → f ≤ 213 → fl σ1 f s < nn π1 ∧ (nn π ≤ fl σ1 f s ∨ fl σ1 f s < 56)) : ∃ π2 σ2, Df_add N π1 σ1 D s = some (π2, σ2, P + L.length) ∧ ob π1 D 1 ∧ FLs (fl σ 23 D) π1 σ1 π2 σ2 ∧ XFt (fl σ 23 D) π σ π2 σ2 ∧ BDy Xo π2 σ2 τ D P (L ++ [x]) Kn ∧ RmX (fl σ 23 D) π σ π2 σ2 (nn π1 - nn π + 1) (sw π1 - sw π) ∧ SHs π2 ∧ (∀ (f : Nat) (i : Int), i < 56 → fl σ2 f i = fl σ f i) ∧ (∀ j, el σ2 2 j = el σ 2 j) := by
  have n56 := hS.1
  obtain ⟨b1, b2, b3, b4, b5⟩ := h.b
  have bd1 := h.nw (Int.le_refl _) n56 hf
  have k23 : fl σ1 23 D = fl σ 23 D := hf.2.1 23 D b1.2
  have ng := hf.1.1
  obtain ⟨π2, σ2, q1, q2, q3, q4, q5, q6, q7⟩ := c_dfAdd (N := N) (by omega) bd1 hL hx ⟨fun q => by have := h.2.2.2.2.2.2.2.1 _ q; omega, fun f f1 f2 => ⟨(hw.2 f f1 f2).1, fun q => by have := h.2.2.2.2.2.2.2.1 _ q; have := (hw.2 f f1 f2).2; omega⟩⟩
  rw [k23] at q2 q5 q6
  rw [q6] at q5
  have e1 : fl σ1 1 (fl σ 23 D) = fl σ 1 (fl σ 23 D) := hf.2.1 1 _ b2.2
  refine ⟨π2, σ2, q1, bd1.1.1, q2, ((XFt.rf (fl σ 23 D) π σ).nw hf (Int.le_refl _) b2.2).ls q2, q3, ⟨by omega, ?_⟩, (hS.ext hf.1).ext q2.1, fun f i hi => ?_, fun j => ?_⟩
  · have c1 : cpc π1 σ1 (fl σ 23 D) = cpc π σ (fl σ 23 D) := by
      unfold cpc
      rw [e1]
      by_cases c : fl σ 1 (fl σ 23 D) < 0
      · rw [if_pos c, if_pos c]
      · rw [if_neg c, if_neg c, (hf.1.2.2 _ b4).2]
    omega
  · rw [q2.2.1 f i (by omega) (by omega)]; exact hf.2.1 f i (by omega)
  · have : fl σ 1 (fl σ 23 D) ≠ 2 := by
      intro e
      rcases h.2.1.ar with q | q
      · omega
      · have := h.2.1.2
        rcases this with t | t
        · omega
        · have := t.2.1; omega
    rw [q2.2.2.1 2 j (by omega) (by omega)]; exact hf.2.2 2 j (by omega)
/-- the frame of a part -/
def FR12 (τ : St) (d K num : Int) : Prop := fl τ 41 0 = d + 1 ∧ (0 ≤ d ∧ d < 500) ∧ el τ 74 d = K ∧ el τ 72 d = 0 ∧ el τ 71 d = num
/-- a part that is one step is read by both -/
theorem pt_leaf {π π2 : Sh} {σ σ2 τ τ' : St} {D P st cl d K a b at' : Int} {L : List Stq} {Kn : List Int} (hN : 30000001 ≤ N) (h : XS Xo π σ τ D P L Kn st cl) (hn : fl τ 16 0 + 3 ≤ 32768) (hft : XFt (fl σ 23 D) π σ π2 σ2) (hbd : BDy Xo π2 σ2 τ D P (L ++ [(K, fl σ 222 50, a, b, 0, 0, 0, [])]) Kn) (hrm : RmX (fl σ 23 D) π σ π2 σ2 3 16) (hS2 : SHs π2) (h222 : fl σ2 222 50 = at') (hat : fl σ 222 50 < at' ∧ at' ≤ cl) (h182 : fl σ2 182 1 = 0 ∧ fl σ2 184 1 = fl σ 184 1 ∧ fl σ2 224 50 = fl σ 224 50 ∧ fl σ2 221 50 = D ∧ fl σ2 223 50 = fl σ 223 50 ∧ fl σ2 181 1 = fl σ 181 1) (hel : ∀ j, el σ2 2 j = el σ 2 j) (hrd : RDr (fl τ 16 0) d τ τ') (r2 : fl τ' 2 0 = at') (r11 : fl τ' 11 0 = 0 ∧ fl τ' 13 0 = fl τ 13 0 ∧ fl τ' 47 0 = fl τ 47 0) (r41 : fl τ' 41 0 = d ∧ fl τ' 46 0 = fl τ 16 0 ∧ fl τ' 16 0 = fl τ 16 0 + 1) (hK : (el τ' 94 (fl τ 16 0) = 20 ∧ K = 1 ∧ el τ' 92 (fl τ 16 0) = a ∧ el τ' 91 (fl τ 16 0) = b) ∨ (el τ' 94 (fl τ 16 0) = 21 ∧ K = 2 ∧ el τ' 92 (fl τ 16 0) = a ∧ b = 0) ∨ (el τ' 94 (fl τ 16 0) = 22 ∧ K = 3 ∧ a = 0 ∧ b = 0)) (h93 : el τ' 93 (fl τ 16 0) = fl σ 222 50) (hv : IV K a b 0 0 []) : PTo Xo N D P L Kn st cl d π σ τ π2 σ2 τ' (P + L.length) := by
  obtain ⟨x1, x2, x3, ⟨x4, x4'⟩, x5, x6, x7, x8, x9⟩ := id h
  refine ⟨hft, hrd, Or.inr ⟨[(K, fl σ 222 50, a, b, 0, 0, 0, [])], fl τ 16 0, ?_, r41.1, r41.2.1, r11.2.1, ⟨Int.le_refl _, by omega⟩, by rcases hK with h | h | h <;> omega, ?_, by omega, by omega, by simp; omega, hrm.mono (by omega) (by omega)⟩⟩
  · refine ⟨hS2, x2.mv hrd ⟨h182.2.2.2.2.2, h182.2.2.2.2.1, hel⟩ (by have := x2.2.1; omega), by rw [r2, h222], ⟨h182.1, r11.1⟩, by rw [h182.2.1, r11.2.1]; exact x5, by rw [h182.2.2.1, r11.2.2, r2]; omega, h182.2.2.2.1, ?_, by omega⟩
    exact hbd.mv (HP.rf _ _) (TX.rd hrd) ⟨rfl, rfl, rfl⟩ (fun _ _ _ _ => rfl) (fun _ _ _ _ => rfl)
  · refine ⟨fun x hx => ?_, fun U ℓ vlo Kn' y => ?_⟩
    · have e : x = (K, fl σ 222 50, a, b, 0, 0, 0, []) := by simpa using hx
      rw [e]; show K ≠ 99; omega
    have nd : ND (fl τ 16 0) (fl τ' 16 0) (fl τ 16 0) := ⟨⟨x9, by omega⟩, Int.le_refl _, by omega⟩
    have t := tk_leaf (U := U) (ℓ := ℓ) (τp := se τ' 85 (fl τ 16 0) y) (vlo := vlo) (P := P) (lo := fl τ 16 0) (hi := fl τ' 16 0) (j := L.length) (u := fl τ' 2 0 - fl τ 2 0 + 6 * (21 - fl τ 13 0)) (v := fl τ' 2 0 - fl τ 2 0) (δ := 0) (k := (12 * (fl τ' 2 0 - fl τ 2 0) - 1).toNat) (Kn := Kn') (avq := []) (n := fl τ 16 0) (K := K) (place := fl σ 222 50) (a := a) (b := b) (ins := []) hN nd (by rw [el_sen _ _ _ _ (by decide), el_sen _ _ _ _ (by decide), el_sen _ _ _ _ (by decide)]; exact hK) (by rw [el_sen _ _ _ _ (by decide)]; exact h93) hv (by omega) (by omega) (by omega) (by omega)
    exact t.mono (Nat.le_refl _) (Int.le_refl _) (Int.le_refl _) (fun _ _ _ _ _ _ => rfl) (List.prefix_refl _) (Int.le_refl _) (Int.le_refl _) (by decide) (Int.le_refl _) (fun _ hx => hx) (fun _ hx => hx)
/-- a rest -/
theorem pt_rest {π : Sh} {σ τ : St} {D P st cl d : Int} {L : List Stq} {Kn : List Int} {rP : Sh → St → Option (Sh × St × Int)} (hN : 30000001 ≤ N) (h : XS Xo π σ τ D P L Kn st cl) (hF : FR12 τ d 12 0) (hL : L.length ≤ 19000) (hn : fl τ 16 0 + 3 ≤ 32768) (hb : bA τ (fl σ 222 50) = 126) : ∃ π' σ' τ' o, Tx_part N rP π σ = some (π', σ', o) ∧ RLp N 1 τ τ' ∧ PTo Xo N D P L Kn st cl d π σ τ π' σ' τ' o := by
  obtain ⟨x1, x2, x3, ⟨x4, x4'⟩, x5, x6, x7, x8, x9⟩ := id h
  obtain ⟨a0, ⟨b1, b2, b3, b4, b5⟩, c0, d0⟩ := id x2
  obtain ⟨f1, f2, f3, f4, f5⟩ := hF
  have size := a0.2.2.1
  obtain ⟨e1, e2, e3, e4, e5⟩ := x8.b
  have n56 := x1.1
  have acl : fl σ 222 50 < cl := by
    by_cases c : fl σ 222 50 < cl
    · exact c
    · rw [show fl σ 222 50 = cl by omega, c0] at hb; omega
  obtain ⟨at0, hat0⟩ : ∃ at0, at0 = fl σ 222 50 := ⟨_, rfl⟩
  obtain ⟨σa, hσa⟩ : ∃ σa, σa = sf σ 222 50 (at0 + 1) := ⟨_, rfl⟩
  have xa : XFc σ σa := by rw [hσa]; exact (XFc.rf σ).at _
  have bda : BDy Xo π σa τ D P L Kn := x8.st (TX.rf τ) (fun f i y z => xa.1 f i (by omega) (by omega)) xa.2
  have k23 : fl σa 23 D = fl σ 23 D := xa.1 23 D (by omega) (by omega)
  have ga : fl σa 222 50 = at0 + 1 := by rw [hσa, fl_sfs]
  have gf : ∀ f i, ¬ (f = 222 ∧ i = 50) → fl σa f i = fl σ f i := fun f i hx => by rw [hσa, fl_sf, if_neg hx]
  obtain ⟨π1, σ1, s1, s2, s3, s4, s5, s6, s7, s8⟩ := c_spInit (N := N) (π := π) (σ := σa) (kd := 3) (place := at0)
  have sq : SQ π1 σ1 (nn π) (3, at0, 0, 0, 0, 0, 0, []) := Or.inr ⟨(by decide : (3 : Int) ≠ 99), mkSR s6 (by omega) (by simp) (mkCK s5 (by rw [s7.2.1]; decide) (by omega) (fun h => by omega) (fun _ h _ => absurd rfl h) (fun h => by omega) (fun h => by omega) (fun h => by omega)) s5.2.1 ⟨s5.2.2.2.2.2.2.1, Or.inl rfl⟩⟩
  obtain ⟨π2, σ2, q1, q2, q3, q4, q5, q6, q7, q8, q9⟩ := c_addNew (N := N) x1 bda (by omega) s2 sq (own_new s6 s7)
  rw [k23] at q4 q6
  have cl1 : Tx_part N rP π σ = some (π2, σ2, P + L.length) := by
    have i1 : i32 (126 : Int) := by decide
    rw [Tx_part, c_here x2, Option.bind_some, hb, c_isLetter i1, if_neg (by omega), Option.bind_some, grd_t (by decide), if_pos rfl, c_isDigit i1, if_neg (by omega), Option.bind_some, grd_t (by decide), if_pos rfl, grd_t i1]
    simp only
    have fz : fl (zO σa (nn π) dfl) 222 50 = at0 + 1 := by rw [fl_zO, if_neg (by omega)]; exact ga
    rw [if_neg (by decide), if_pos trivial, bnd, ← hat0, ← hσa, Tx_part_58, fz, show at0 + 1 - 1 = at0 by omega, s1, Option.bind_some, grd_t (ob_nO π 10 14), Tx_part_69, x7, q1, Option.bind_some, grd_t q2, Tx_part_72]
  -- the reference
  have bb := bA_rg a0 at0
  obtain ⟨τa, hτa⟩ : ∃ τa, τa = sf τ 2 0 (at0 + 1) := ⟨_, rfl⟩
  have ta : ∀ f i, f ≠ 2 → fl τa f i = fl τ f i := fun f i hx => by rw [hτa, fl_sfn _ _ _ _ hx]
  have t2 : fl τ 2 0 = at0 := by rw [x3, hat0]
  have n16 : fl τa 16 0 = fl τ 16 0 := ta 16 0 (by decide)
  obtain ⟨τ', hτ'⟩ : ∃ τ', τ' = sf (sf (nwN τa 22 at0) 46 0 (fl τ 16 0)) 41 0 d := ⟨_, rfl⟩
  have rrd : rdK N 12 τ d = some τ' := by
    have i1 : i32 (126 : Int) := by decide
    rw [rdK]
    iterate 11 rw [if_neg (by decide)]
    rw [r_readPart, t2, rr_byteAt a0 (by exact ⟨by omega, by omega⟩), Option.bind_some, grd_t (by exact ⟨f2.1, by omega⟩)]
    simp only
    rw [f4, grd_t (by decide), if_neg (by decide), hat0, hb, rr_isLow i1, if_neg (by omega), Option.bind_some, grd_t (by decide), if_pos rfl, rr_isDigit i1, if_neg (by omega), Option.bind_some, grd_t (by decide), if_pos rfl, grd_t i1, if_neg (by decide), if_pos rfl, bnd, t2, ← hτa, r_node' (by rw [n16]; omega), Option.bind_some, n16]
    simp only
    rw [r_finish', Option.bind_some, nwN_fl _ _ _ _ _ (by decide), ta 41 0 (by decide), f1, hτ', show d + 1 - 1 = d by omega]
  have rd0 : RDr (fl τ 16 0) d τ τ' := by
    rw [hτ', hτa]
    exact ((nwN_rd ((RDr.rf _ _ τ).sf 2 _ (by omega)) _ _ (by rw [fl_sfn _ _ _ _ (by decide)]; omega)).sf 46 _ (by omega)).sf 41 _ (by omega)
  have v := nwN_v τa 22 at0
  rw [n16] at v
  have ev : ∀ a j, el τ' a j = el (nwN τa 22 at0) a j := fun a j => by rw [hτ']; rfl
  have fv : ∀ f i, f ≠ 46 → f ≠ 41 → f ≠ 16 → f ≠ 2 → fl τ' f i = fl τ f i := fun f i y1 y2 y3 y4 => by rw [hτ', fl_sfn _ _ _ _ y2, fl_sfn _ _ _ _ y1, nwN_fl _ _ _ _ _ y3, ta f i y4]
  refine ⟨π2, σ2, τ', _, cl1, RLp.one f1 (by omega) x4' ⟨f3, by omega, by omega⟩ rrd, ?_⟩
  refine pt_leaf (K := 3) (a := 0) (b := 0) (at' := at0 + 1) hN h hn ?_ (by rw [← hat0]; exact q5) ?_ q7 (by rw [q8 222 50 (by omega)]; exact ga) (by omega) ⟨by rw [q8 182 1 (by omega), gf 182 1 (by omega)]; exact x4, by rw [q8 184 1 (by omega), gf 184 1 (by omega)], by rw [q8 224 50 (by omega), gf 224 50 (by omega)], by rw [q8 221 50 (by omega), gf 221 50 (by omega)]; exact x7, by rw [q8 223 50 (by omega), gf 223 50 (by omega)], by rw [q8 181 1 (by omega), gf 181 1 (by omega)]⟩ (fun j => by rw [q9 j]; exact xa.2 2 j) rd0 ?_ ⟨by rw [fv 11 0 (by decide) (by decide) (by decide) (by decide)]; exact x4', fv 13 0 (by decide) (by decide) (by decide) (by decide), fv 47 0 (by decide) (by decide) (by decide) (by decide)⟩ ⟨by rw [hτ', fl_sfs], by rw [hτ', fl_sfn _ _ _ _ (by decide), fl_sfs], by rw [hτ', fl_sfn _ _ _ _ (by decide), fl_sfn _ _ _ _ (by decide), nwN_16, n16]⟩ (Or.inr (Or.inr ⟨by rw [ev]; exact v.1, rfl, rfl, rfl⟩)) (by rw [ev, v.2.1, hat0]) (by unfold IV; simp)
  · exact ((XFt.rf (fl σ 23 D) π σ).xf xa (by omega)).tr q4
  · have c : cpc π σa (fl σ 23 D) = cpc π σ (fl σ 23 D) := by unfold cpc; rw [gf 1 _ (by omega)]
    exact ⟨by have := q6.1; omega, by have := q6.2; omega⟩
  · rw [hτ', fl_sfn _ _ _ _ (by decide), fl_sfn _ _ _ _ (by decide), nwN_fl _ _ _ _ _ (by decide), hτa, fl_sfs]
end LF
