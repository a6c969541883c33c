/-! sums: the loop -/
section SV
variable {N : Nat} {b : Bse} {Xo : Int → Prop} {dl : List (Int × Int)} {rA rF : Sh → St → Option (Sh × St × Int)}
/-- the class's loop -/
theorem sm_go {n : Nat} {π π1 π3 π4 π5 π6 : Sh} {σ σ1 σ2 σ3 σ4 σ5 σ6 : St} {i acc o acc' : Int} (h0 : 0 ≤ i ∧ i < 2000) (h1 : fl σ 182 1 = 0) (h2 : isOpB (fl σ 185 1)) (hn : 1 < nn π) (h3 : Sp_initB N (nO π 10 14) (zO σ (nn π) dfl) (nn π) 21 (fl σ 186 1) (fl σ 185 1) 0 = some (π1, σ1)) (h4 : ob (nO π 10 14) (nn π) 10) (h5 : Sc_advance N π1 σ1 = some σ2) (h6 : Sp_give N π1 σ2 (nn π) acc = some (π3, σ3, (nn π : Int))) (h7 : ob π1 (nn π) 10) (h8 : Rd_app N rA rF π3 σ3 = some (π4, σ4, o)) (h9 : Sp_give N π4 σ4 (nn π) o = some (π5, σ5, (nn π : Int))) (h10 : ob π4 (nn π) 10) (h11 : Df_add N π5 σ5 (fl σ5 144 44) (nn π) = some (π6, σ6, acc')) (h12 : ob π5 (fl σ5 144 44) 1) : Rd_sum_7 N rA rF (n + 1) π σ acc i = Rd_sum_7 N rA rF n π6 σ6 acc' (i + 1) := by
  have hi : i32 (fl σ 185 1) := by unfold isOpB at h2; exact ⟨by omega, by omega⟩
  have e : ∀ f : Nat, fl (zO σ (nn π) dfl) f 1 = fl σ f 1 := fun f => by rw [fl_zO, if_neg (by omega)]
  rw [Rd_sum_7, grd_t (by exact ⟨by omega, by omega⟩), if_pos h0.2, h1, grd_t (by decide), if_pos rfl, c_isOp hi, Option.bind_some, if_pos h2, grd_t (by decide), if_neg (by decide), Rd_sum_40, e 186, e 185, h3, Option.bind_some, grd_t h4]
  simp only
  rw [Rd_sum_61, h5, Option.bind_some, h6, Option.bind_some, grd_t h7]
  simp only
  rw [Rd_sum_74, h8, Option.bind_some]
  simp only
  rw [Rd_sum_78, h9, Option.bind_some, grd_t h10]
  simp only
  rw [Rd_sum_81, h11, Option.bind_some, grd_t h12]
  rfl
theorem sm_stop {n : Nat} {π : Sh} {σ : St} {i acc : Int} (h0 : 0 ≤ i ∧ i < 3000) (h1 : i32 (fl σ 182 1)) (h2 : fl σ 182 1 = 0 → i32 (fl σ 185 1) ∧ ¬ isOpB (fl σ 185 1)) : Rd_sum_7 N rA rF (n + 1) π σ acc i = some (π, σ, acc) := by
  rw [Rd_sum_7, grd_t (by exact ⟨by omega, by omega⟩)]
  by_cases c : i < 2000
  · rw [if_pos c, grd_t h1]
    by_cases c2 : fl σ 182 1 = 0
    · rw [if_pos c2, c_isOp (h2 c2).1, Option.bind_some, if_neg (h2 c2).2, grd_t (by decide), if_pos rfl]
    · rw [if_neg c2]
  · rw [if_neg c]
/-- terms stand, and the turn of the reference isn't over -/
def SMC (N : Nat) (b : Bse) (τ : St) (lo d r t1 tm acc : Int) (Kn : List Int) (j : Int) (seg : List Stq) (w z : Int) (k : Nat) : Prop := OCt N b τ lo (fl τ 16 0) r Kn j seg t1 tm acc w z k ∧ (el τ 94 r = 3 ∧ el τ 87 r = t1 ∧ el τ 86 r = tm) ∧ el τ 85 tm = -1 ∧ (lo ≤ r ∧ r < fl τ 16 0) ∧ (lo ≤ tm ∧ tm < fl τ 16 0 ∧ tm ≠ r) ∧ (lo ≤ t1 ∧ t1 < fl τ 16 0) ∧ (el τ 73 d = r ∧ fl τ 41 0 = d + 1 ∧ el τ 74 d = 3 ∧ el τ 72 d = 1)
def SBb (b : Bse) (π0 : Sh) (σ0 τ0 : St) (π : Sh) (σ τ : St) (seg : List Stq) (nk : Int) (k T : Nat) : Prop := (k : Int) + 11 + 12 * lf τ ≤ 12 * lf τ0 ∧ fl τ 16 0 + 3 * lf τ ≤ fl τ0 16 0 + 3 * lf τ0 ∧ (seg.length : Int) + 2 * lf τ + 2 ≤ 2 * lf τ0 ∧ nk + lf τ ≤ lf τ0 ∧ (T : Int) + 25 + 20 * lf τ ≤ 20 * lf τ0 ∧ (nn π : Int) + 8 ≤ nn π0 + 12 * (lf τ0 - lf τ) ∧ (sw π : Int) + 4 * cpc π0 σ0 (bX b) + 4 * cpc π0 σ0 (bY b) + 80 ≤ sw π0 + 4 * cpc π σ (bX b) + 4 * cpc π σ (bY b) + 150 * (lf τ0 - lf τ)
def smW (c op : Int) (τ0 τ : St) : Int := (lf τ0 - lf τ + 28 * (20 - op) + 2 * c) / 2 + 2
def smZ (c op : Int) (τ0 τ : St) : Int := (lf τ0 - lf τ + 28 * (20 - op) + 2 * c + 2) / 2 + 1
/-- a sum, before its next term is read -/
def SMA (N : Nat) (b : Bse) (dl : List (Int × Int)) (Xo : Int → Prop) (c op d r s t' t1 tm acc place sg : Int) (L0 : List Stq) (Kn0 : List Int) (π0 : Sh) (σ0 τ0 : St) (π : Sh) (σ τ : St) (seg : List Stq) (kn : List Int) (k T : Nat) : Prop := XEs b (XR Xo σ s) π σ τ (L0 ++ seg) (Kn0 ++ kn) ∧ OST π σ (nn π0) s place sg [(acc, 1, 1)] ∧ EFt (bX b) (bY b) π0 σ0 π σ ∧ RDr (fl τ0 16 0) d τ0 τ ∧ (fl τ 41 0 = d + 2 ∧ el τ 74 d = 3 ∧ el τ 72 d = 1 ∧ el τ 73 d = r) ∧ (el τ 74 (d + 1) = 4 ∧ el τ 72 (d + 1) = 0 ∧ el τ 73 (d + 1) = -1) ∧ fl τ 13 0 = op ∧ OCt N b τ (fl τ0 16 0) t' r (Kn0 ++ kn) L0.length seg t1 tm acc (smW c op τ0 τ) (smZ c op τ0 τ) k ∧ (fl τ 16 0 = t' + 1 ∧ el τ 85 tm = t') ∧ (el τ 93 t' = place ∧ el τ 92 t' = sg ∧ el τ 87 t' = -1 ∧ el τ 85 t' = -1) ∧ isOpB sg ∧ (el τ 94 r = 3 ∧ el τ 87 r = t1 ∧ el τ 86 r = t') ∧ (fl τ0 16 0 ≤ r ∧ r < t' ∧ fl τ0 16 0 ≤ tm ∧ tm < t' ∧ tm ≠ r ∧ fl τ0 16 0 ≤ t1 ∧ t1 < t') ∧ (∀ y ∈ seg, y.1 = 99 → Uoe dl b y) ∧ SBb b π0 σ0 τ0 π σ τ seg kn.length k T
set_option maxHeartbeats 4000000 in
/-- a sign follows: the next term is begun -/
theorem sum_next {c op d r t1 tm acc : Int} {L0 : List Stq} {Kn0 kn : List Int} {π0 π : Sh} {σ0 τ0 σ τ : St} {seg : List Stq} {k T : Nat} (hN : 30000001 ≤ N) (hc : CTX b dl) (h0 : XEs b Xo π0 σ0 τ0 L0 Kn0) (hB0 : PRE τ0 L0 Kn0) (hop : fl τ0 13 0 = op) (hcs : 0 ≤ c) (hd : 0 ≤ d ∧ d < 500) (h : XEs b Xo π σ τ (L0 ++ seg) (Kn0 ++ kn)) (h13 : fl τ 13 0 = op) (he : EFt (bX b) (bY b) π0 σ0 π σ) (hr : RDr (fl τ0 16 0) d τ0 τ) (hs : SMC N b τ (fl τ0 16 0) d r t1 tm acc (Kn0 ++ kn) L0.length seg (smW c op τ0 τ) (smZ c op τ0 τ) k) (hU : ∀ y ∈ seg, y.1 = 99 → Uoe dl b y) (ho : isOpB (fl σ 185 1)) (b1 : (k : Int) + 12 * lf τ ≤ 12 * lf τ0 + 1) (b2 : fl τ 16 0 + 3 * lf τ ≤ fl τ0 16 0 + 3 * lf τ0 + 2) (b3 : (seg.length : Int) + 2 * lf τ ≤ 2 * lf τ0) (b4 : (kn.length : Int) + lf τ ≤ lf τ0) (b5 : (T : Int) + 6 + 20 * lf τ ≤ 20 * lf τ0) (b6 : (nn π : Int) ≤ nn π0 + 12 * (lf τ0 - lf τ)) (b7 : (sw π : Int) + 4 * cpc π0 σ0 (bX b) + 4 * cpc π0 σ0 (bY b) ≤ sw π0 + 4 * cpc π σ (bX b) + 4 * cpc π σ (bY b) + 150 * (lf τ0 - lf τ)) : ∃ π1 σ1 σ2 π3 σ3 τ', Sp_initB N (nO π 10 14) (zO σ (nn π) dfl) (nn π) 21 (fl σ 186 1) (fl σ 185 1) 0 = some (π1, σ1) ∧ ob (nO π 10 14) (nn π) 10 ∧ Sc_advance N π1 σ1 = some σ2 ∧ Sp_give N π1 σ2 (nn π) acc = some (π3, σ3, (nn π : Int)) ∧ ob π1 (nn π) 10 ∧ r_readSum_116 N τ d 1 = some τ' ∧ lf τ' + 1 ≤ lf τ ∧ SMA N b dl Xo c op d r (nn π) (fl τ 16 0) t1 tm acc (fl σ 186 1) (fl σ 185 1) L0 Kn0 π0 σ0 τ0 π3 σ3 τ' seg kn k T := by
  obtain ⟨s1, s2, s3, s4, s5, s6, s7⟩ := hs
  have l0 := h0.2.1.lf
  have lh := h.2.1.lf
  have opb := h0.2.2.2.1
  have v16 := h0.2.2.2.2.2.2.2.2.1
  have bv : 0 ≤ bV b := by obtain ⟨-, -, -, -, -, -, -, -, -, q⟩ := hc; exact q
  have nb := h0.2.2.2.2.2.2.1.1.1
  have n56 := h0.1.1
  have n0p := he.1.1
  have lx := h.lt hc
  unfold PRE at hB0
  have tk := h.2.1
  obtain ⟨t', ht'⟩ : ∃ t', t' = fl τ 16 0 := ⟨_, rfl⟩
  have tr : 0 ≤ t' ∧ t' < 32768 := by omega
  -- the class
  obtain ⟨π1, σ1, c1, c2, c3, c4, c5, c6, c7, c8⟩ := OST.new (N := N) (place := fl σ 186 1) (sg := fl σ 185 1) h.1 h.2.2.2.2.2.1
  have e1 : EFt (bX b) (bY b) π σ π1 σ1 := EFt.nw c6 (Int.le_refl _) ⟨lx.1.2.1, lx.1.2.2.2.1⟩
  have hXn : ∀ y, XR Xo σ1 (nn π) y → nn b.1 ≤ y := fun y hy => by
    have w5 := c5.1.2.2.2.2.1
    have u3 := c5.2.2.1
    rcases hy with q | q | ⟨z1, z2⟩
    · exact h.2.2.2.2.2.2.2.2.2 y q
    · omega
    · omega
  have x1 : XEs b (XR Xo σ1 (nn π)) π1 σ1 τ (L0 ++ seg) (Kn0 ++ kn) := h.cl hc e1 (fun g => c6.2.1 g 1 (by omega)) c4 hXn
  -- the reference
  obtain ⟨τn, hτn⟩ : ∃ τn, τn = se (nwN τ 4 (fl τ 4 0)) 92 t' (fl τ 6 0) := ⟨_, rfl⟩
  have rdn : RDr (fl τ0 16 0) d τ τn := by rw [hτn]; exact (nwN_rd (RDr.rf _ _ _) 4 _ (by omega)).sn 92 t' _ (by omega) (by omega)
  have fn' : ∀ g : Nat, g ≠ 16 → fl τn g 0 = fl τ g 0 := fun g hg => by rw [hτn, fl_se]; exact nwN_fl _ _ _ _ _ hg
  have fn16 : fl τn 16 0 = t' + 1 := by rw [hτn, fl_se, ht']; exact nwN_16 _ _ _
  have nvn := nwN_v τ 4 (fl τ 4 0)
  rw [← ht'] at nvn
  have en : ∀ a i : Int, i ≠ t' → el τn a i = el τ a i := fun a i hi => by rw [hτn, el_se, if_neg (by omega), nwN_el _ _ _ _ _ (by rw [← ht']; omega)]
  have ent : ∀ a : Int, a ≠ 92 → el τn a t' = el (nwN τ 4 (fl τ 4 0)) a t' := fun a ha => by rw [hτn, el_sen _ _ _ _ (by omega)]
  have er86 : el τn 86 r = tm ∧ el τn 87 r = t1 := ⟨by rw [en 86 r (by omega)]; exact s2.2.2, by rw [en 87 r (by omega)]; exact s2.2.1⟩
  obtain ⟨τa, hτa⟩ : ∃ τa, τa = apN τn r t' := ⟨_, rfl⟩
  have apc : r_append N τn r t' = some τa := by
    rw [hτa]
    exact r_append' ⟨by omega, by omega⟩ ⟨by omega, by omega⟩ (Or.inr (by rw [er86.1]; exact ⟨by omega, by omega⟩)) (by rw [er86.2]; exact ⟨by omega, by omega⟩)
  have n87 : ¬ el τn 87 r = -1 := by rw [er86.2]; omega
  have ea : ∀ a i : Int, ¬ (a = 85 ∧ (i = t' ∨ i = tm)) → ¬ (a = 86 ∧ i = r) → el τa a i = el τn a i := fun a i z1 z2 => by
    rw [hτa]
    unfold apN
    rw [if_neg n87, er86.1, el_se, if_neg (by omega), el_se, if_neg z2, el_se, if_neg (by omega)]
  have ea1 : el τa 86 r = t' ∧ el τa 85 t' = -1 ∧ el τa 85 tm = t' := by
    rw [hτa]
    unfold apN
    rw [if_neg n87, er86.1]
    refine ⟨by rw [el_sen _ _ _ _ (by decide), el_ses], by rw [el_ses], by rw [el_se, if_neg (by omega), el_sen _ _ _ _ (by decide), el_ses]⟩
  have rda : RDr (fl τ0 16 0) d τ τa := by
    rw [hτa]
    exact apN_rd rdn ⟨by omega, by omega, Or.inr (by rw [er86.1]; omega)⟩
  have fa : ∀ g : Nat, fl τa g 0 = fl τn g 0 := fun g => by rw [hτa, apN_fl]
  have xa : XEs b (XR Xo σ1 (nn π)) π1 σ1 τa (L0 ++ seg) (Kn0 ++ kn) := x1.rt hc rda (by omega) hd.1 (by rw [fa, fn16]; omega) (fun g hg => by rw [fa]; exact fn' g (by omega))
  have s41 : ∀ g : Nat, fl σ1 g 1 = fl σ g 1 := fun g => c6.2.1 g 1 (by omega)
  have k185 : fl σ1 185 1 ≠ 5 ∧ fl σ1 185 1 ≠ 6 := by rw [s41]; unfold isOpB at ho; omega
  obtain ⟨σ2, τ5, p1, p2, p3, p4, p5, p6, p7, -⟩ := xa.adv (N := N) (by omega) hc k185.1
  have g51 : fl τ5 41 0 = d + 1 := by rw [p5.1 41 0 (by omega), fa, fn' 41 (by decide)]; exact s7.2.1
  obtain ⟨τ6, h6⟩ : ∃ τ6, τ6 = nwF τ5 4 (-1) 0 := ⟨_, rfl⟩
  have e73 : el (nwN τ 4 (fl τ 4 0)) 73 d = r := by rw [nwN_el _ _ _ _ _ (by omega)]; exact s7.1
  have turn : r_readSum_116 N τ d 1 = some τ6 := by
    rw [r_readSum_116, grd_t (by decide), if_neg (by decide), r_node' ⟨by omega, by omega⟩, Option.bind_some]
    simp only
    rw [← ht', grd_t (by exact ⟨tr.1, tr.2⟩), grd_t (by exact ⟨hd.1, by omega⟩), nwN_fl _ _ _ _ _ (by decide)]
    simp only [bnd]
    rw [← hτn, e73, apc, Option.bind_some, p2, Option.bind_some, r_begin' ⟨by omega, by omega⟩, Option.bind_some, h6]
  -- both
  have xr : XR Xo σ2 (nn π) = XR Xo σ1 (nn π) := XR.eq (fun f z1 z2 => p4.1 f _ (by omega))
  have o2 : OST π1 σ2 (nn π) (nn π) (fl σ 186 1) (fl σ 185 1) [] := by
    obtain ⟨q1, q2, q3, q4, q5⟩ := c5
    have hf : ∀ f : Nat, fl σ2 f (nn π) = fl σ1 f (nn π) := fun f => p4.1 f _ (by omega)
    refine ⟨q1.cg (ext.rf _) (fun f _ => hf f) (fun j => p4.2 _ j), ?_, by rw [hf, hf, hf]; exact q3, by rw [hf]; exact q4, q5⟩
    unfold FSp
    rw [hf, hf, hf, hf, hf, hf, hf, hf, hf]
    exact q2
  rw [← xr] at p3
  obtain ⟨π3, σ3, g1, g2, g3, g4, g5, g6⟩ := XEs.go (N := N) (o := acc) hc p3 o2 ⟨by omega, by omega⟩ (by simp)
  have f6 : ∀ g : Nat, g ≠ 41 → fl τ6 g 0 = fl τ5 g 0 := fun g hg => by rw [h6]; exact nwF_fl _ _ _ _ _ _ hg
  have f616 : fl τ6 16 0 = t' + 1 := by rw [f6 16 (by decide), p5.1 16 0 (by omega), fa, fn16]
  have e6 : ∀ a i : Int, ¬ (71 ≤ a ∧ a ≤ 74) → el τ6 a i = el τa a i := fun a i ha => by rw [h6, nwF_el _ _ _ _ _ _ (by omega), p5.2]
  have ed6 : ∀ a : Int, 71 ≤ a → a ≤ 74 → el τ6 a d = el τ a d := fun a z1 z2 => by
    rw [h6, nwF_el _ _ _ _ _ _ (by omega), p5.2, ea a d (by omega) (by omega), hτn, el_sen _ _ _ _ (by omega), nwN_el _ _ _ _ _ (by omega)]
  have nv6 := nwF_v τ5 4 (-1) 0
  rw [g51, ← h6] at nv6
  have rd5 : RDr (fl τ0 16 0) d τ τ5 := rda.tr (RDr.sc (lo := fl τ0 16 0) (d := d) p5) (Int.le_refl _) (Int.le_refl _)
  have rd6 : RDr (fl τ0 16 0) d τ τ6 := by rw [h6]; exact nwF_rd rd5 _ _ _ (by omega)
  have lf6 : lf τ6 + 1 ≤ lf τ := by
    have z1 : fl τ6 1 0 = fl τ 1 0 := rd6.1 1 0 (by omega) (by decide) (by decide) (by decide) (by decide)
    have z2 : fl τ6 4 0 = fl τ5 4 0 := f6 4 (by decide)
    have z3 : fl τa 4 0 = fl τ 4 0 := by rw [fa, fn' 4 (by decide)]
    unfold lf
    omega
  have er : ERf σ1 σ2 := ERf.sc p4
  have lx3 := g4.lt hc
  have k31 : ∀ y, y = bX b ∨ y = bY b → fl σ3 1 y = fl σ 1 y := fun y hy => by
    rw [g6 1 y (by omega), er.1 1 y (by omega) (by omega) (by omega), c6.2.1 1 y (by omega)]
  have ex3 : ext π π3 := c6.1.tr g2.1
  have cx : cpc π3 σ3 (bX b) = cpc π σ (bX b) := cpc_eq (k31 _ (Or.inl rfl)) ex3 lx.2.1.1
  have cy : cpc π3 σ3 (bY b) = cpc π σ (bY b) := cpc_eq (k31 _ (Or.inr rfl)) ex3 lx.2.1.2
  have x6 : XEs b (XR Xo σ3 (nn π)) π3 σ3 τ6 (L0 ++ seg) (Kn0 ++ kn) := g4.rt hc (by rw [h6]; exact nwF_rd (RDr.rf (bV b) 0 τ5) _ _ _ (by omega)) (Int.le_refl _) (Int.le_refl _) (by omega) (fun g hg => f6 g (by omega))
  have e03 : EFt (bX b) (bY b) π0 σ0 π3 σ3 := (he.tr (e1.tr (EFt.rd er ⟨lx.1.1, lx.1.2.2.1⟩))).own (g2.le (by omega)) ⟨g6 1 _ (by omega), g6 1 _ (by omega)⟩
  have o3 : OST π3 σ3 (nn π0) (nn π) (fl σ 186 1) (fl σ 185 1) [(acc, 1, 1)] := by
    obtain ⟨q1, q2, q3, q4, q5⟩ := g3
    exact ⟨⟨q1.1, by omega, q1.2.2.1, q1.2.2.2.1, by have := q1.2.2.2.2.1; omega, q1.2.2.2.2.2⟩, q2, q3, q4, by omega⟩
  have s6' : fl τ 6 0 = fl σ 185 1 := by
    have t6 := tk.2.2.2.2.2
    unfold isOpB at ho
    rcases t6 with q | q | ⟨q, -⟩ | q | q | q | q | ⟨sg, y1, y2, y3, y4, -⟩
    · omega
    · omega
    · omega
    · omega
    · omega
    · omega
    · omega
    · rw [y4]; exact y2.symm
  refine ⟨π1, σ1, σ2, π3, σ3, τ6, c1, c3, p1, g1, c2, turn, lf6, x6, o3, e03, hr.tr rd6 (Int.le_refl _) (Int.le_refl _), ⟨by rw [h6, nwF_41, g51]; omega, by rw [ed6 74 (by omega) (by omega)]; exact s7.2.2.1, by rw [ed6 72 (by omega) (by omega)]; exact s7.2.2.2, by rw [ed6 73 (by omega) (by omega)]; exact s7.1⟩, ⟨nv6.1, nv6.2.2.1, nv6.2.1⟩, ?_, ?_, ⟨by rw [f616, ht'], by rw [e6 85 tm (by omega), ← ht']; exact ea1.2.2⟩, ⟨?_, ?_, ?_, ?_⟩, ho, ⟨?_, ?_, ?_⟩, by omega, hU, by omega, by omega, by omega, by omega, by omega, by omega, ?_⟩
  · rw [f6 13 (by decide), p5.1 13 0 (by omega), fa, fn' 13 (by decide)]; exact h13
  · rw [← ht'] at s1 ⊢
    exact s1.cg (fun a i z1 z2 z3 z4 z5 z6 => by rw [e6 a i (by omega), ea a i (by omega) (by omega), en a i (by omega)]) (List.prefix_refl _) (by unfold smW smZ; omega)
  · rw [e6 93 _ (by omega), ← ht', ea 93 t' (by omega) (by omega), ent 93 (by decide), nvn.2.1]; exact tk.2.1.symm
  · rw [e6 92 _ (by omega), ← ht', ea 92 t' (by omega) (by omega), hτn, el_ses]; exact s6'
  · rw [e6 87 _ (by omega), ← ht', ea 87 t' (by omega) (by omega), ent 87 (by decide)]; exact nvn.2.2.2.2.2.2.2.1
  · rw [e6 85 _ (by omega), ← ht']; exact ea1.2.1
  · rw [e6 94 r (by omega), ea 94 r (by omega) (by omega), en 94 r (by omega)]; exact s2.1
  · rw [e6 87 r (by omega), ea 87 r (by omega) (by omega)]; exact er86.2
  · rw [e6 86 r (by omega), ← ht']; exact ea1.1
  · rw [cx, cy]
    omega
end SV
