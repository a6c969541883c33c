/-! FUNs in brackets: the end, the next piece, the loop -/
section PR9
variable {N : Nat} {b : Bse} {Xo : Int → Prop} {dl : List (Int × Int)} {rA rF : Sh → St → Option (Sh × St × Int)}
theorem XQ.pw {X : Int → Prop} {π : Sh} {σ σ' τ : St} {l k pc : Int} (h : XQ b X π σ τ l k) (p : PWr σ σ' pc) (h56 : 56 ≤ pc) : XQ b X π σ' τ l k := by
  obtain ⟨w1, ⟨τt, w2⟩, w3, w4, L', Kn', w5, w6, w7⟩ := h
  exact ⟨w1, ⟨τt, w2.cg (fun g _ => p.1 g 1 (by omega)) (fun j => p.2 2 j) (fun _ _ => rfl) (fun _ => rfl)⟩, ⟨by rw [p.1 182 1 (by omega)]; exact w3.1, by rw [p.1 183 1 (by omega)]; exact w3.2.1, w3.2.2⟩, by rw [p.1 144 44 (by omega)]; exact w4, L', Kn', w5.pw p, w6, w7⟩
/-- how a FUN in brackets ends -/
def FPe (N : Nat) (b : Bse) (dl : List (Int × Int)) (Xo : Int → Prop) (d : Int) (L0 : List Stq) (Kn0 : List Int) (π0 : Sh) (σ0 τ0 : St) (π : Sh) (σ τ : St) (fc : Int) (T : Nat) : Prop := EFt (bX b) (bY b) π0 σ0 π σ ∧ RDr (fl τ0 16 0) d τ0 τ ∧ (EXs b Xo L0 Kn0 1 π0 σ0 τ0 π σ τ T ∨ FUk N b dl Xo L0 Kn0 d 1 3 4 6 1 1 (fun _ => -1) (rFn N b) π0 σ0 τ0 π σ τ fc T)
set_option maxHeartbeats 4000000 in
/-- a bracket closes it -/
theorem pl_end {op d n fc cl w z A B : Int} {L0 : List Stq} {Kn0 kn : List Int} {π0 π : Sh} {σ0 τ0 σ τ τ2 : St} {l : List Ech} {m k T : Nat} (hN : 30000001 ≤ N) (hc : CTX b dl) (h0 : XEs b Xo π0 σ0 τ0 L0 Kn0) (hB0 : PRE τ0 L0 Kn0) (hop : fl τ0 13 0 = op ∧ 0 ≤ op ∧ op < 20) (hd : 0 ≤ d ∧ d < 500) (h : PLH N b dl Xo op d n L0 Kn0 π0 σ0 τ0 π σ τ l kn fc cl w z A B m k T) (hs : fl σ 185 1 = 41) : ∃ σ' τ', Rd_expect N π σ 41 = some σ' ∧ bnd (sf τ 13 0 ((fl τ 13 0) - 1)) (fun σ16 => Option.bind (r_advance N σ16) (fun r18 => Option.bind (r_finish N r18 (el r18 73 d)) (fun r20 => some r20))) = some τ' ∧ FPe N b dl Xo d L0 Kn0 π0 σ0 τ0 π (sf σ' 184 1 (fl σ' 184 1 - 1)) τ' fc (T + 1) := by
  obtain ⟨a1, a2, a3, a4, a5, a6, a7, a8, a9, a10, a11, a12, a13, a14, a15, ⟨a16, a17⟩, ⟨b1, b2, b3, b4, b5, b6⟩, ⟨b7, b8⟩, b9, b10⟩ := h
  have l0 := h0.2.1.lf
  have l1 := a1.2.1.lf
  have tk := a1.2.1
  have f0 := a1.2.2.1
  have h34 := a1.2.2.2.1
  have v16 := h0.2.2.2.2.2.2.2.2.1
  have bv : 0 ≤ bV b := by obtain ⟨-, -, -, -, -, -, -, -, -, q⟩ := hc; exact q
  have hP : bP b ≤ 4 := by obtain ⟨-, -, -, -, ⟨q, -⟩, -⟩ := hc; exact q.2
  have lx := a1.lt hc
  unfold PRE at hB0
  obtain ⟨τ4, hτ4⟩ : ∃ τ4, τ4 = sf τ 13 0 (fl τ 13 0 - 1) := ⟨_, rfl⟩
  obtain ⟨σ5, τ5, w1, w2, w3, w4, w5, w6, w7, -⟩ := both_advance (N := N) (π := π) (σ := σ) (τ := τ4) (by omega) (tk.cg (fun _ _ => rfl) (fun _ => rfl) (fun g hg => by rw [hτ4, fl_sfn _ _ _ _ (by omega)]) (fun _ => by rw [hτ4]; rfl)) (by omega)
  obtain ⟨σ6, hσ6⟩ : ∃ σ6, σ6 = sf σ5 184 1 (fl σ5 184 1 - 1) := ⟨_, rfl⟩
  obtain ⟨τ6, hτ6⟩ : ∃ τ6, τ6 = sf (sf τ5 46 0 n) 41 0 (fl τ5 41 0 - 1) := ⟨_, rfl⟩
  have ex : Rd_expect N π σ 41 = some σ5 := by
    rw [Rd_expect, grd_t tk.kd.1, grd_t (by decide), if_pos hs, w1, Option.bind_some]
  have er : ERf σ σ6 := by rw [hσ6]; exact (ERf.sc w3).tr (ERf.sf _ 184 1 _ (by omega))
  have t4f : ∀ g : Nat, g ≠ 13 → fl τ4 g 0 = fl τ g 0 := fun g hg => by rw [hτ4, fl_sfn _ _ _ _ hg]
  have t6f : ∀ g : Nat, g ≠ 46 → g ≠ 41 → fl τ6 g 0 = fl τ5 g 0 := fun g x y => by rw [hτ6, fl_sfn _ _ _ _ y, fl_sfn _ _ _ _ x]
  have t5e : ∀ a i, el τ5 a i = el τ a i := fun a i => by rw [w4.2, hτ4, el_sf]
  have t6e : ∀ a i, el τ6 a i = el τ a i := fun a i => by rw [hτ6, el_sf, el_sf, t5e]
  have t613 : fl τ6 13 0 = op := by rw [t6f 13 (by decide) (by decide), w4.1 13 0 (by omega), hτ4, fl_sfs]; omega
  have t646 : fl τ6 46 0 = n := by rw [hτ6, fl_sfn _ _ _ _ (by decide), fl_sfs]
  have t641 : fl τ6 41 0 = d := by rw [hτ6, fl_sfs, w4.1 41 0 (by omega), t4f 41 (by decide), a4.1]; omega
  have t616 : fl τ6 16 0 = fl τ 16 0 := by rw [t6f 16 (by decide) (by decide), w4.1 16 0 (by omega), t4f 16 (by decide)]
  have rr : RDr n d τ τ6 := by
    rw [hτ6]
    exact ((((by rw [hτ4]; exact (RDr.rf _ _ τ).sf 13 _ (by omega) : RDr n d τ τ4).tr (RDr.sc (lo := n) (d := d) w4) (Int.le_refl _) (Int.le_refl _)).sf 46 _ (by omega)).sf 41 _ (by omega))
  have l6 : lf τ6 + 1 ≤ lf τ := by
    have q1 : fl τ6 1 0 = fl τ 1 0 := rr.1 1 0 (by omega) (by decide) (by decide) (by decide) (by decide)
    have q2 : fl τ6 4 0 = fl τ5 4 0 := t6f 4 (by decide) (by decide)
    have q3 : fl τ4 4 0 = fl τ 4 0 := t4f 4 (by decide)
    unfold lf
    omega
  have x6 : XEs b Xo π σ6 τ6 (L0 ++ egs l) (Kn0 ++ kn) := by
    refine a1.mv hc er rr (by omega) hd.1 (by omega) ⟨?_, ?_⟩ ⟨?_, by omega, by omega⟩ (w5.cg (fun g hg => by rw [hσ6, fl_sfn _ _ _ _ (by omega)]) (fun _ => by rw [hσ6]; rfl) (fun g hg => t6f g (by omega) (by omega)) (fun _ => by rw [hτ6]; rfl))
    · rw [hσ6, fl_sfn _ _ _ _ (by decide), w3.1 182 1 (by omega)]; exact f0.1
    · rw [t6f 11 (by decide) (by decide), w4.1 11 0 (by omega), t4f 11 (by decide)]; exact f0.2
    · rw [hσ6, fl_sfs, w3.1 184 1 (by omega), t613]; omega
  have l6' := x6.2.1.lf
  have nn0 := a6.1
  obtain ⟨W, hW⟩ : ∃ W, W = (lf τ0 - lf τ + 28 * (20 - op)) / 2 := ⟨_, rfl⟩
  rw [← hW] at a15
  have h16 : fl τ 16 0 ≤ 32768 := by omega
  have nd : ND n (fl τ 16 0) n := ⟨⟨by omega, by omega⟩, Int.le_refl _, a6.2⟩
  have W0 : 0 ≤ W := by omega
  have fq : FUq N b τ6 n (fl τ6 16 0) (Kn0 ++ kn) L0.length (egs l) n (eaz l) W W (ekk l + 1) := by
    intro x y hx
    have hl := HLv_b hx
    have e : ∀ a i, ¬ (a = 85 ∧ i = n) → el (se τ6 85 n y) a i = el τ a i := fun a i hq => by rw [el_se, if_neg hq, t6e]
    rw [t616]
    have mem := a8.le.2
    have hs' : ECs N b (se τ6 85 n y) (Kn0 ++ kn) L0.length (n + 1) (fl τ 16 0) l := a8.cg (List.prefix_refl _) (fun u hu a i _ _ x3 x4 _ => e a i (by have := mem u hu; omega))
    have hn' : ECn (se τ6 85 n y) (n + 1) (fl τ 16 0) n l := ECn.mv a8 a9 ⟨e 87 n (by omega), e 86 n (by omega)⟩ (Int.le_refl _) (fun u hu => ⟨e 94 _ (by omega), e 85 _ (by have := mem u hu; omega)⟩)
    have ak := ak_e (x := x) (w := W) (z := W) hN hP W0 hx hs' (by omega) hn'.1 a15
    exact tk_args (k1 := ekk l) hN nd ⟨by rw [e 94 n (by omega), a7]; decide, by rw [e 94 n (by omega), a7]; decide⟩ rfl (ak.mono (Nat.le_refl _) (by omega) (Int.le_refl _) (fun _ _ _ _ _ _ => rfl) (List.prefix_refl _) (Int.le_refl _) (Int.le_refl _) (Int.le_refl _) (Int.le_refl _) (fun _ hx => hx) (fun _ hx => hx)) (by omega) (Nat.le_refl _)
  have kf : ∀ g : Nat, fl σ6 g fc = fl σ g fc := fun g => by
    have ob6 := a14.2.2
    have n56 := h0.1.1
    exact er.1 g fc (by omega) (by omega) (by omega)
  have eazl := eaz_in a8 (by omega)
  have pfx : PFx (nn π0) (nn π) (-1) π σ π σ6 := ⟨ext.rf _, fun f i s1 s2 _ _ _ => er.1 f i (by omega) (by omega) (by omega), fun a j _ _ _ => er.2 a j⟩
  have hch : CHn τ6 (n + 1) (fl τ 16 0) (l.map eC) (el τ6 87 n) := by
    rw [t6e]
    exact a9.1.cg (fun a i _ _ _ _ => t6e a i)
  have lcs : (l.map eC).length < 2000 := by rw [List.length_map]; omega
  have hap : ∀ q : Nat, 21 ≤ op + q → APs N (bD b) (bP b) (bV b) n (fl τ 16 0) m (k + 1) w z A B (Uoe dl b) (eaz l) 11 n (nn π0) (nn π) (-1) π σ6 τ6 (fun π σ p => Pc_applyAll N (Pc_applyC N q) π σ fc (bD b) p) := fun q hq => by
    have c1 := (a12 q hq).at pfx (fun a i _ _ _ _ _ => t6e a i)
    exact APs.all hN hP nd (by rw [t6e]; exact a7) hch ⟨by omega, Int.le_refl _, by omega⟩ lcs a16.1 c1 (fun s1 _ => by omega)
  refine ⟨σ5, τ6, ex, ?_, ?_⟩
  · simp only [bnd]
    rw [← hτ4, w2, Option.bind_some, t5e, a4.2.2.2, r_finish', Option.bind_some, hτ6]
  · rw [← hσ6]
    refine ⟨a2.tr (EFt.rd er ⟨lx.1.1, lx.1.2.2.1⟩), by rw [← nn0]; exact a3.tr rr (Int.le_refl _) (Int.le_refl _), Or.inr ⟨egs l, kn, n, eaz l, W, W, ekk l + 1, m, k + 1, w, z, A, B, x6, ⟨t641, t646, by rw [t613, hop.1]⟩, ⟨by omega, by rw [t616]; exact a6.2⟩, by rw [t6e, a7]; decide, by rw [← nn0]; exact fq, fun q hq => ?_, a10, ⟨a14.2.1, a14.2.2, by omega⟩, fun q hq => ?_, ?_, ?_, ⟨b7, b8, ?_⟩⟩⟩
    · have s := eazl q hq
      rw [t616]
      exact ⟨s.1, by omega, s.2.2⟩
    · rw [t616, ← nn0]
      exact hap q (by omega)
    · rw [hop.1]
      exact ⟨⟨W0, by omega⟩, ⟨W0, by omega⟩, ⟨a16.1, by omega⟩, ⟨a17.1, by omega⟩⟩
    · rw [t616]
      exact ⟨by push_cast; omega, by omega, by omega, by omega, by push_cast; omega, by omega⟩
    · have cx : cpc π σ6 (bX b) = cpc π σ (bX b) := cpc_eq (er.1 1 _ (by omega) (by omega) (by omega)) (ext.rf _) lx.2.1.1
      have cy : cpc π σ6 (bY b) = cpc π σ (bY b) := cpc_eq (er.1 1 _ (by omega) (by omega) (by omega)) (ext.rf _) lx.2.1.2
      exact ⟨by omega, by rw [cx, cy]; omega⟩
/-- a dot: the next piece -/
theorem pl_next {op d n fc cl w z A B : Int} {L0 : List Stq} {Kn0 kn : List Int} {π0 π : Sh} {σ0 τ0 σ τ : St} {l : List Ech} {m k T : Nat} (hN : 30000001 ≤ N) (hc : CTX b dl) (h0 : XEs b Xo π0 σ0 τ0 L0 Kn0) (hop : 0 ≤ op ∧ op < 20) (hd : 0 ≤ d ∧ d < 500) (h : PLH N b dl Xo op d n L0 Kn0 π0 σ0 τ0 π σ τ l kn fc cl w z A B m k T) (hs : fl σ 185 1 = 46) : ∃ σ' τ', Sc_advance N π σ = some σ' ∧ Option.bind (r_advance N τ) (fun r22 => Option.bind (r_begin N r22 9 (-1) 0) (fun r24 => some r24)) = some τ' ∧ lf τ' + 1 ≤ lf τ ∧ PLA N b dl Xo op d n L0 Kn0 π0 σ0 τ0 π σ' τ' l kn fc cl 0 w z A B m k (T + 1) := by
  obtain ⟨a1, a2, a3, a4, a5, a6, a7, a8, a9, a10, a11, a12, a13, a14, a15, ⟨a16, a17⟩, ⟨b1, b2, b3, b4, b5, b6⟩, ⟨b7, b8⟩, b9, b10⟩ := h
  have lx := a1.lt hc
  have v16 := h0.2.2.2.2.2.2.2.2.1
  obtain ⟨σ', τ1, q1, q2, q3, q4, q5, q6, q7, -⟩ := a1.adv (N := N) (by omega) hc (by omega)
  have g41 : fl τ1 41 0 = d + 1 := by rw [q5.1 41 0 (by omega)]; exact a4.1
  obtain ⟨τ', h'⟩ : ∃ τ', τ' = nwF τ1 9 (-1) 0 := ⟨_, rfl⟩
  have nv := nwF_v τ1 9 (-1) 0
  rw [g41, ← h'] at nv
  have f' : ∀ g : Nat, g ≠ 41 → fl τ' g 0 = fl τ1 g 0 := fun g hg => by rw [h']; exact nwF_fl _ _ _ _ _ _ hg
  have f16 : fl τ' 16 0 = fl τ 16 0 := by rw [f' 16 (by decide), q5.1 16 0 (by omega)]
  have e' : ∀ a i : Int, ¬ (71 ≤ a ∧ a ≤ 74 ∧ i = d + 1) → el τ' a i = el τ a i := fun a i ha => by rw [h', nwF_el _ _ _ _ _ _ (by omega), q5.2]
  have rd' : RDr n d τ τ' := by rw [h']; exact nwF_rd (RDr.sc (lo := n) (d := d) q5) _ _ _ (by omega)
  have lf' : lf τ' + 1 ≤ lf τ := by
    have z1 : fl τ' 1 0 = fl τ 1 0 := rd'.1 1 0 (by omega) (by decide) (by decide) (by decide) (by decide)
    have z2 : fl τ' 4 0 = fl τ1 4 0 := f' 4 (by decide)
    unfold lf
    omega
  have x' : XEs b Xo π σ' τ' (L0 ++ egs l) (Kn0 ++ kn) := q3.rt hc (by rw [h']; exact nwF_rd (RDr.rf (bV b) 0 τ1) _ _ _ (by omega)) (Int.le_refl _) (Int.le_refl _) (by rw [f16]; omega) (fun g hg => f' g (by omega))
  have er : ERf σ σ' := ERf.sc q4
  have pfx : PFx (nn π0) (nn π) (-1) π σ π σ' := ⟨ext.rf _, fun f i s1 s2 _ _ _ => er.1 f i (by omega) (by omega) (by omega), fun a j _ _ _ => er.2 a j⟩
  have l1 := x'.2.1.lf
  have cx : cpc π σ' (bX b) = cpc π σ (bX b) := cpc_eq (er.1 1 _ (by omega) (by omega) (by omega)) (ext.rf _) lx.2.1.1
  have cy : cpc π σ' (bY b) = cpc π σ (bY b) := cpc_eq (er.1 1 _ (by omega) (by omega) (by omega)) (ext.rf _) lx.2.1.2
  have n56 := h0.1.1
  refine ⟨σ', τ', q1, by rw [q2, Option.bind_some, r_begin' ⟨by omega, by omega⟩, Option.bind_some, h'], lf', x', a2.tr (EFt.rd er ⟨lx.1.1, lx.1.2.2.1⟩), a3.tr rd' (Int.le_refl _) (Int.le_refl _), ⟨by rw [h', nwF_41, g41]; omega, by rw [e' 74 d (by omega)]; exact a4.2.1, by rw [e' 72 d (by omega)]; exact a4.2.2.1, by rw [e' 73 d (by omega)]; exact a4.2.2.2⟩, ⟨nv.1, nv.2.2.1, nv.2.1⟩, by rw [f' 13 (by decide), q5.1 13 0 (by omega)]; exact a5, ⟨a6.1, by rw [f16]; exact a6.2⟩, by rw [e' 94 n (by omega)]; exact a7, by rw [f16]; exact a8.cg (List.prefix_refl _) (fun y _ a i _ _ _ _ _ => e' a i (by omega)), by rw [f16]; exact ECn.mv a8 a9 ⟨e' 87 n (by omega), e' 86 n (by omega)⟩ (Int.le_refl _) (fun y _ => ⟨e' 94 _ (by omega), e' 85 _ (by omega)⟩), a10, a11, by rw [f16]; exact fun q hq => (a12 q hq).at pfx (fun a i _ _ _ _ _ => e' a i (by omega)), a13, ⟨fun q => by have := a14.2.2; omega, fun q => absurd q a14.1⟩, a15.mono (by omega) (by omega), ⟨⟨a16.1, by omega⟩, ⟨a17.1, by omega⟩⟩, ⟨by omega, by omega, by omega, by rw [f16]; omega, by push_cast; omega, by omega⟩, ⟨b7, b8⟩, by omega, by rw [cx, cy]; omega⟩
end PR9
