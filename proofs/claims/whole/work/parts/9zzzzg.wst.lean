/-! a function with what it wants: the state while it is read -/
/-- budgets -/
def WBg (b : Bse) (op e0 : Int) (π0 : Sh) (σ0 τ0 : St) (π : Sh) (σ τ : St) (l : List Ech) (nk : Int) (T : Nat) : Prop := EBd ((e0 - lf τ + 28 * (20 - op)) / 2 + 3) ((e0 - lf τ + 28 * (20 - op)) / 2 + 5) l ∧ (ekk l : Int) + 12 * lf τ + 11 ≤ 12 * e0 + 2 * l.length ∧ fl τ 16 0 + 3 * lf τ + 2 ≤ fl τ0 16 0 + 3 * e0 ∧ ((egs l).length : Int) + 2 * lf τ + 2 ≤ 2 * e0 ∧ nk + lf τ + 1 ≤ e0 ∧ (T : Int) + 18 + 20 * lf τ ≤ 20 * lf τ0 ∧ (nn π : Int) + 10 ≤ nn π0 + 12 * (e0 - lf τ) ∧ (sw π : Int) + 4 * cpc π0 σ0 (bX b) + 4 * cpc π0 σ0 (bY b) + 136 ≤ sw π0 + 4 * cpc π σ (bX b) + 4 * cpc π σ (bY b) + 150 * (e0 - lf τ)
def WST (N : Nat) (b : Bse) (dl : List (Int × Int)) (Xo : Int → Prop) (fC fR K Kd us d n pc place op e0 : Int) (L0 : List Stq) (Kn0 : List Int) (π0 : Sh) (σ0 τ0 : St) (π : Sh) (σ τ : St) (a a2 c c2 : Int) (l : List Ech) (kn : List Int) (T : Nat) : Prop := XEs b (fun x => Xo x ∨ x = pc + 1) π σ τ (L0 ++ egs l) (Kn0 ++ kn) ∧ (PCf π σ pc fC place a a2 c c2 ∧ PCa π σ pc (eou l) ∧ fl σ 129 pc = pc + 1 ∧ fl σ 127 pc = -1 ∧ fl σ 128 pc = us) ∧ (pc = nn π0 ∧ pc + 1 < nn π) ∧ EFt (bX b) (bY b) π0 σ0 π σ ∧ RDr n d τ0 τ ∧ (fl τ 41 0 = d + 2 ∧ el τ 74 (d + 1) = 6 ∧ el τ 72 (d + 1) = 0 ∧ el τ 73 (d + 1) = n) ∧ (el τ 74 d = Kd ∧ el τ 72 d = 1 ∧ el τ 73 d = n) ∧ fl τ 13 0 = op ∧ (n = fl τ0 16 0 ∧ n < fl τ 16 0) ∧ (FN τ n place fR a a2 c c2 ∧ el τ 94 n = K) ∧ ECs N b τ (Kn0 ++ kn) L0.length (n + 1) (fl τ 16 0) l ∧ ECn τ (n + 1) (fl τ 16 0) n l ∧ (∀ y ∈ egs l, y.1 = 99 → Uoe dl b y) ∧ (∀ y ∈ l, eO y ≠ none) ∧ (l.length ≤ 3 ∧ e0 ≤ lf τ0) ∧ WBg b op e0 π0 σ0 τ0 π σ τ l kn.length T
/-- a turn of the reference that goes on at τi -/
def TRN (N : Nat) (τp τi : St) (d n : Int) : Prop := rdK N 6 τp (d + 1) = r_readWants_33 N τi (d + 1) n ∧ fl τp 41 0 = d + 2 ∧ fl τp 11 0 = 0 ∧ el τp 74 (d + 1) = 6
section WB9
variable {N : Nat} {b : Bse} {Xo : Int → Prop} {dl : List (Int × Int)}
theorem TRN.same {τ : St} {d n : Int} (hd : 0 ≤ d ∧ d < 500) (h41 : fl τ 41 0 = d + 2) (h11 : fl τ 11 0 = 0) (h74 : el τ 74 (d + 1) = 6) (h72 : el τ 72 (d + 1) = 0) (h73 : el τ 73 (d + 1) = n) : TRN N τ τ d n := by
  refine ⟨?_, h41, h11, h74⟩
  show r_readWants N τ (d + 1) = _
  rw [r_readWants, grd_t (by exact ⟨by omega, by omega⟩)]
  simp only [bnd]
  rw [h72, grd_t (by decide), if_neg (by decide), h73]
set_option maxHeartbeats 4000000 in
/-- it is begun -/
theorem ws_start {π0 : Sh} {σ0 σ1 τ0 : St} {L0 : List Stq} {Kn0 : List Int} {fC fR K Kd us d op W : Int} (hN : 30000001 ≤ N) (hc : CTX b dl) (h0 : XEs b Xo π0 σ0 τ0 L0 Kn0) (hB0 : PRE τ0 L0 Kn0) (hop : fl τ0 13 0 = op) (hd : 0 ≤ d ∧ d < 500) (hK : el τ0 74 d = Kd ∧ fl τ0 41 0 = d + 1) (e1 : ERf σ0 σ1) (e2 : ∀ g : Nat, fl σ1 g 1 = fl σ0 g 1) (hk : fl σ0 185 1 = 1) (hKK : 0 ≤ K ∧ K < 100) : ∃ π1 σ2 σ3 τa, Pc_init N (nO π0 6 11) (zO σ1 (nn π0) dfl) (nn π0) fC (fl σ0 186 1) = some (π1, σ2) ∧ ob (nO π0 6 11) (nn π0) 6 ∧ ob π1 (nn π0) 6 ∧ fl σ2 128 (nn π0) = -1 ∧ Sc_advance N π1 (sf σ2 128 (nn π0) us) = some σ3 ∧ (∀ (f : Nat) (i : Int), i < nn π0 → fl σ2 f i = fl σ1 f i) ∧ fl σ2 120 (nn π0) = fC ∧ r_advance N (se (nwN τ0 K (fl τ0 4 0)) 92 (fl τ0 16 0) fR) = some τa ∧ fl τa 41 0 = d + 1 ∧ (∀ a i : Int, a = 81 ∨ a = 95 → el τa a i = el τ0 a i) ∧ ∀ τw, (∀ g : Nat, g ≠ 41 → fl τw g 0 = fl τa g 0) → fl τw 41 0 = d + 2 → (∀ a i : Int, ¬ ((a = 72 ∨ a = 73) ∧ i = d) → ¬ (71 ≤ a ∧ a ≤ 74 ∧ i = d + 1) → el τw a i = el τa a i) → (∀ (f : Nat) (i : Int), i ≠ 0 → fl τw f i = fl τa f i) → (el τw 74 (d + 1) = 6 ∧ el τw 72 (d + 1) = 0 ∧ el τw 73 (d + 1) = fl τ0 16 0) → (el τw 72 d = 1 ∧ el τw 73 d = fl τ0 16 0) → WST N b dl Xo fC fR K Kd us d (fl τ0 16 0) (nn π0) (fl τ0 4 0) op (lf τ0) L0 Kn0 π0 σ0 τ0 π1 σ3 τw 0 0 0 0 [] [] 1 := by
  have tk := h0.2.1
  have l0 := tk.lf
  have opb := h0.2.2.2.1
  have v16 := h0.2.2.2.2.2.2.2.2.1
  have bv : 0 ≤ bV b := by obtain ⟨-, -, -, -, -, -, -, -, -, q⟩ := hc; exact q
  have nb := h0.2.2.2.2.2.2.1.1.1
  have n56 := h0.1.1
  have lx := h0.lt hc
  have h1 := h0.fo hc e1 e2
  have lx1 := h1.lt hc
  unfold PRE at hB0
  obtain ⟨π1, σ2, c1, c2, c3, c4, c5, c6, c7, c8, c9⟩ := pc_new (N := N) (π := π0) (σ := σ1) (kd := fC) (place := fl σ0 186 1)
  obtain ⟨n, hn⟩ : ∃ n, n = fl τ0 16 0 := ⟨_, rfl⟩
  have n0 : 0 ≤ n ∧ n < 32768 := by omega
  -- the class
  have bd1 : BDy (fun x => Xo x ∨ x = (nn π0 : Int) + 1) π1 σ2 τ0 (bD b) (bP b) L0 Kn0 := by
    refine h1.2.2.2.2.2.1.own c3.1 (fun f i hi _ => c3.2.1 f i hi) (fun a j ha _ => c3.2.2 a j ha) (fun x hx => ?_) n56
    rcases hx with q | q
    · have := h1.2.2.2.2.2.1.2.2.2.2.2.2.2.1 x q
      exact ⟨Or.inl q, this.1, by omega⟩
    · exact ⟨Or.inr (by omega), by omega, by omega⟩
  have x2 : XEs b (fun x => Xo x ∨ x = (nn π0 : Int) + 1) π1 σ2 τ0 L0 Kn0 := h1.cl hc (EFt.nw c3 (Int.le_refl _) ⟨lx.1.2.1, lx.1.2.2.2.1⟩) (fun g => c3.2.1 g 1 (by omega)) bd1 (fun x hx => by
    rcases hx with q | q
    · exact h0.2.2.2.2.2.2.2.2.2 x q
    · omega)
  obtain ⟨σ2', hσ2'⟩ : ∃ σ2', σ2' = sf σ2 128 (nn π0) us := ⟨_, rfl⟩
  have pw : PWr σ2 σ2' (nn π0) := by rw [hσ2']; exact PWr.sf _ 128 _ _ (by decide)
  have x2' : XEs b (fun x => Xo x ∨ x = (nn π0 : Int) + 1) π1 σ2' τ0 L0 Kn0 := x2.pw pw ⟨by omega, by omega⟩
  -- the reference
  obtain ⟨τn, hτn⟩ : ∃ τn, τn = se (nwN τ0 K (fl τ0 4 0)) 92 n fR := ⟨_, rfl⟩
  have rdn : RDr n d τ0 τn := by rw [hτn]; exact (nwN_rd (RDr.rf _ _ _) K _ (by omega)).sn 92 n fR (by omega) (Int.le_refl _)
  have fn' : ∀ g : Nat, g ≠ 16 → fl τn g 0 = fl τ0 g 0 := fun g hg => by rw [hτn, fl_se]; exact nwN_fl _ _ _ _ _ hg
  have fn16 : fl τn 16 0 = n + 1 := by rw [hτn, fl_se, hn]; exact nwN_16 _ _ _
  have nvn := nwN_v τ0 K (fl τ0 4 0)
  rw [← hn] at nvn
  have xn : XEs b (fun x => Xo x ∨ x = (nn π0 : Int) + 1) π1 σ2' τn L0 Kn0 := x2'.rt hc rdn (by omega) hd.1 (by omega) (fun g hg => fn' g (by omega))
  have s1 : ∀ g : Nat, fl σ2' g 1 = fl σ0 g 1 := fun g => by rw [pw.1 g 1 (by omega), c3.2.1 g 1 (by omega)]; exact e2 g
  obtain ⟨σ3, τa, p1, p2, p3, p4, p5, p6, p7, -⟩ := xn.adv (N := N) (by omega) hc (by rw [s1]; omega)
  rw [← hn, ← hτn]
  have g41 : fl τa 41 0 = d + 1 := by rw [p5.1 41 0 (by omega), fn' 41 (by decide)]; exact hK.2
  have ena : ∀ a i : Int, ¬ (84 ≤ a ∧ a ≤ 94 ∧ i = n) → el τa a i = el τ0 a i := fun a i hq => by
    rw [p5.2, hτn, el_se, if_neg (by omega), nwN_el _ _ _ _ _ (by rw [← hn]; omega)]
  have eR : ERf σ2' σ3 := ERf.sc p4
  refine ⟨π1, σ2, σ3, τa, c1, c2, c6.1, c8.2.2, by rw [← hσ2']; exact p1, fun f i hi => c3.2.1 f i hi, c6.2.1, p2, g41, fun a i ha => ena a i (by omega), fun τw w1 w2 w3 w4 w5 w6 => ?_⟩
  have rda : RDr n d τ0 τa := rdn.tr (RDr.sc (lo := n) (d := d) p5) (Int.le_refl _) (Int.le_refl _)
  have rdw' : RDr n d τa τw := ⟨fun f i z1 z2 z3 z4 z5 => by
      by_cases q : i = 0
      · rw [q]; exact w1 f z3
      · exact w4 f i q, fun a j z1 z2 => w3 a j (by omega) (by omega), fun a j z1 z2 z3 => w3 a j (by omega) (by omega), fun a j z1 z2 z3 => w3 a j (by omega) (by omega)⟩
  have rdw : RDr n d τ0 τw := rda.tr rdw' (Int.le_refl _) (Int.le_refl _)
  have xw : XEs b (fun x => Xo x ∨ x = (nn π0 : Int) + 1) π1 σ3 τw L0 Kn0 := p3.rt hc rdw' (by omega) hd.1 (by rw [w1 16 (by decide), p5.1 16 0 (by omega), fn16]; omega) (fun g hg => w1 g (by omega))
  have lfw : lf τw + 1 ≤ lf τ0 := by
    have z1 : fl τw 1 0 = fl τ0 1 0 := rdw.1 1 0 (by omega) (by decide) (by decide) (by decide) (by decide)
    have z2 : fl τw 4 0 = fl τa 4 0 := w1 4 (by decide)
    have z3 : fl τn 4 0 = fl τ0 4 0 := fn' 4 (by decide)
    have z4 : fl σ2' 185 1 = 1 := by rw [s1]; exact hk
    unfold lf
    omega
  have lw := xw.2.1.lf
  have f16 : fl τw 16 0 = n + 1 := by rw [w1 16 (by decide), p5.1 16 0 (by omega), fn16]
  have en : ∀ a : Int, 84 ≤ a → a ≤ 94 → a ≠ 92 → el τw a n = el (nwN τ0 K (fl τ0 4 0)) a n := fun a z1 z2 z3 => by
    rw [w3 a n (by omega) (by omega), p5.2, hτn, el_sen _ _ _ _ z3]
  have en92 : el τw 92 n = fR := by rw [w3 92 n (by omega) (by omega), p5.2, hτn, el_ses]
  have pcf : ∀ g : Nat, g ≠ 128 → fl σ3 g (nn π0) = fl σ2 g (nn π0) := fun g hg => by rw [p4.1 g _ (by omega), hσ2', fl_sfn _ _ _ _ hg]
  have kk : ∀ y, y = bX b ∨ y = bY b → fl σ3 1 y = fl σ0 1 y := fun y hy => by
    rw [p4.1 1 y (by omega), pw.1 1 y (by omega), c3.2.1 1 y (by omega), e1.1 1 y (by omega) (by omega) (by omega)]
  have cx : cpc π1 σ3 (bX b) = cpc π0 σ0 (bX b) := cpc_eq (kk _ (Or.inl rfl)) c3.1 lx.2.1.1
  have cy : cpc π1 σ3 (bY b) = cpc π0 σ0 (bY b) := cpc_eq (kk _ (Or.inr rfl)) c3.1 lx.2.1.2
  have e03 : EFt (bX b) (bY b) π0 σ0 π1 σ3 := by
    have z1 : EFt (bX b) (bY b) π0 σ0 π1 σ2 := (EFt.rd e1 ⟨lx.1.1, lx.1.2.2.1⟩).tr (EFt.nw c3 (Int.le_refl _) ⟨lx.1.2.1, lx.1.2.2.2.1⟩)
    have z2 : EFt (bX b) (bY b) π0 σ0 π1 σ2' := z1.own ⟨ext.rf _, fun f i hi => pw.1 f i (by omega), fun a j _ => pw.2 a j⟩ ⟨pw.1 1 _ (by omega), pw.1 1 _ (by omega)⟩
    exact z2.tr (EFt.rd eR ⟨lx.1.1, lx.1.2.2.1⟩)
  refine ⟨by rw [show egs [] = ([] : List Stq) from rfl, List.append_nil, List.append_nil]; exact xw, ⟨⟨c6.1, ?_, ?_, ?_, ?_, ?_, ?_⟩, ⟨?_, ?_, ?_, trivial⟩, ?_, ?_, ?_⟩, ⟨rfl, by omega⟩, e03, rdw, ⟨w2, w5.1, w5.2.1, w5.2.2⟩, ⟨?_, w6.1, w6.2⟩, ?_, ⟨hn, by omega⟩, ⟨⟨?_, en92, ?_, ?_, ?_, ?_⟩, ?_⟩, ?_, ⟨?_, Or.inl rfl⟩, fun y hy => absurd hy (by simp [egs]), fun y hy => absurd hy (by simp), ⟨by simp, Int.le_refl _⟩, ⟨?_, ?_, ?_, ?_, ?_, ?_, ?_, ?_⟩⟩
  · rw [pcf 120 (by decide)]; exact c6.2.1
  · rw [pcf 121 (by decide), c6.2.2.1]; exact tk.2.1
  · rw [pcf 122 (by decide)]; exact c6.2.2.2.1
  · rw [pcf 123 (by decide)]; exact c6.2.2.2.2.1
  · rw [pcf 124 (by decide)]; exact c6.2.2.2.2.2.1
  · rw [pcf 125 (by decide)]; exact c6.2.2.2.2.2.2
  · rw [pcf 129 (by decide)]; exact c7.1
  · rw [pcf 130 (by decide)]; exact c7.2.1
  · simp [eou]
  · rw [pcf 129 (by decide)]; exact c9
  · rw [pcf 127 (by decide)]; exact c8.2.1
  · rw [p4.1 128 _ (by omega), hσ2', fl_sfs]
  · rw [w3 74 d (by omega) (by omega), ena 74 d (by omega)]; exact hK.1
  · rw [w1 13 (by decide), p5.1 13 0 (by omega), fn' 13 (by decide)]; exact hop
  · rw [en 93 (by omega) (by omega) (by omega)]; exact nvn.2.1
  · rw [en 91 (by omega) (by omega) (by omega)]; exact nvn.2.2.2.1
  · rw [en 90 (by omega) (by omega) (by omega)]; exact nvn.2.2.2.2.1
  · rw [en 89 (by omega) (by omega) (by omega)]; exact nvn.2.2.2.2.2.1
  · rw [en 88 (by omega) (by omega) (by omega)]; exact nvn.2.2.2.2.2.2.1
  · rw [en 94 (by omega) (by omega) (by omega)]; exact nvn.1
  · show n + 1 ≤ fl τw 16 0; omega
  · rw [en 87 (by omega) (by omega) (by omega)]; exact nvn.2.2.2.2.2.2.2.1
  · show 0 ≤ _; omega
  · show ((1 : Nat) : Int) + 12 * lf τw + 11 ≤ 12 * lf τ0 + 2 * ((0 : Nat) : Int); omega
  · omega
  · show ((0 : Nat) : Int) + 2 * lf τw + 2 ≤ 2 * lf τ0; omega
  · show ((0 : Nat) : Int) + lf τw + 1 ≤ lf τ0; omega
  · push_cast; omega
  · omega
  · rw [cx, cy]; omega
end WB9
