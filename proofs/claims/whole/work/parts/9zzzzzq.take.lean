/-! a line, from its beginning to its end -/
section TK9
variable {N : Nat}
/-- a use of a known definition, later, while nodes from its base on are new -/
theorem DFx.at {π π' : Sh} {σ τ σ' τ' : St} {e : Int × Int} {y : Stq} {n0 s0 K0 V' : Int} (h : DFx N π σ τ e) (hx : HX π σ π' σ') (ht : TX τ τ') (hV : fl τ 28 0 ≤ V' ∧ V' ≤ 6000) (hv : ∀ a v : Int, 80 ≤ a → a ≤ 81 → v < fl τ 28 0 → el τ' a v = el τ a v) (hn : ∀ a i : Int, 85 ≤ a → a ≤ 94 → i < fl τ 16 0 → el τ' a i = el τ a i) (h1 : y.2.2.1 = e.1) (h2 : y.2.2.2.1 = e.2) (h3 : (y.2.2.2.2.2.2.2.length : Int) = el τ 81 e.2) (h4 : 1 ≤ y.2.2.2.2.2.2.2.length) {x : Nat} (hx12 : x ≤ 12) : UDb N V' x (π', σ', τ', n0, s0, K0) (fl τ 16 0) y :=
  UDb.keep (g := (π, σ, τ, 0, 0, 0)) (g' := (π', σ', τ', n0, s0, K0)) (m := fl τ 16 0) hx ht hV hv hn x _ _ y (Int.le_refl _) (Int.le_refl _) (h.2.2 (by omega) x hx12 y h1 h2 h3)
/-- a body that was read is a definition's -/
theorem BDy.ds {X : Int → Prop} {π : Sh} {σ τ : St} {D P o n0 s0 K0 : Int} {L : List Stq} {Kn : List Int} (h : BDy X π σ τ D P L Kn) (ho : fl σ 25 D = o) : DS (π, σ, τ, n0, s0, K0) D P L Kn o := by
  obtain ⟨⟨b1, b2, b3, b4⟩, b5, b6, -⟩ := h
  refine ⟨b1, b2, ⟨b3, b4⟩, ?_, ?_, ho⟩
  · obtain ⟨a1, a2, a3, a4, a5, a6, a7⟩ := b5.1
    refine ⟨a1, a2, a3, fun hl => ?_, a5, a6, a7⟩
    obtain ⟨d1, d2, d3, d4, d5⟩ := a4 hl
    exact ⟨d1, d2, d3, d4, d5.mono (fun i e _ _ _ hq => hq.1)⟩
  · obtain ⟨a1, a2, a3, a4, a5, a6, a7⟩ := b6.1
    refine ⟨a1, a2, a3, fun hl => ?_, a5, a6, a7⟩
    obtain ⟨d1, d2, d3, d4, d5⟩ := a4 hl
    exact ⟨d1, d2, d3, d4, d5.mono (fun i e _ _ _ hq => ⟨hq.1, hq.2.pr⟩)⟩
theorem bdy_sq {X : Int → Prop} {π : Sh} {σ τ : St} {D P : Int} {L : List Stq} {Kn : List Int} (h : BDy X π σ τ D P L Kn) : ∀ y ∈ L, y.1 = 99 → 1 ≤ y.2.2.2.2.2.2.2.length := by
  intro y hy h9
  have a4 := h.2.1.1.2.2.2.1 (fun q => by rw [q] at hy; simp at hy)
  have := At.all (Q := fun i (e : Stq) => SQ π σ (el σ (fl σ 1 (fl σ 23 D)) i) e ∧ own X π σ (el σ (fl σ 1 (fl σ 23 D)) i)) (P := fun e : Stq => e.1 = 99 → 1 ≤ e.2.2.2.2.2.2.2.length) (fun i e he h99 => ?_) a4.2.2.2.2 y hy h9
  · exact this
  · rcases he.1 with q | q
    · exact q.2.2.2.2.2.2.2.1.1
    · exact absurd h99 q.1
/-- the tables stay as they are below their ends -/
def TBl (τ τ' : St) : Prop := (∀ a j : Int, 59 ≤ a → a ≤ 70 → j < fl τ 48 0 → el τ' a j = el τ a j) ∧ (∀ a j : Int, a = 57 ∨ a = 58 → j < fl τ 61 0 → el τ' a j = el τ a j) ∧ (∀ a j : Int, 79 ≤ a → a ≤ 83 → j < fl τ 28 0 → el τ' a j = el τ a j) ∧ ∀ a j : Int, 85 ≤ a → a ≤ 94 → j < fl τ 16 0 → el τ' a j = el τ a j
theorem GRW.tb {π π' : Sh} {σ τ σ' τ' τ2 : St} (h : GRW π σ τ π' σ' τ') (k : TBl τ' τ2) : TBl τ τ2 := by
  obtain ⟨h1, ⟨t1, t2, t3, t4⟩, h3, h4, h5, h6⟩ := h
  exact ⟨fun a j x y z => (k.1 a j x y (by omega)).trans (t3 a j x y z), fun a j x y => (k.2.1 a j x (by omega)).trans (t4 a j x y), fun a j x y z => (k.2.2.1 a j x y (by omega)).trans (h5 a j x y z), fun a j x y z => (k.2.2.2 a j x y (by omega)).trans (h6 a j x y z)⟩
theorem LRf.tb {τ τ' : St} (h : LRf τ τ') : TBl τ τ' := ⟨fun a j x y z => h.2.1 a j (by omega) (by omega) (by omega), fun a j x y => h.2.1 a j (by omega) (by omega) (by omega), fun a j x y z => h.2.1 a j (by omega) (by omega) (by omega), fun a j x y z => h.2.2 a j (by omega) y z⟩
/-- a fault was met -/
def FTS (π0 : Sh) (σ0 τ0 : St) (cF wF : Int) (π : Sh) (σ τ : St) : Prop := (SHs π ∧ KCf π0 σ0 π σ ∧ KRf τ0 τ ∧ TBl τ0 τ) ∧ (1 ≤ fl τ 11 0 ∧ fl τ 11 0 ≤ 10) ∧ ((fl σ 182 1 = fl τ 11 0 ∧ fl σ 183 1 = fl τ 12 0) ∨ (fl σ 182 1 = 0 ∧ fl σ 88 3 = fl τ 11 0 ∧ fl σ 89 3 = fl τ 12 0)) ∧ (fl σ 87 3 = fl τ 64 0 ∧ 0 ≤ fl τ 64 0 ∧ fl τ 64 0 ≤ 200) ∧ (∃ ds, LD π σ 43 ds) ∧ (fl τ 149 0 = fl τ0 16 0 ∧ fl τ 150 0 = fl τ0 48 0 ∧ fl τ 151 0 = fl τ0 61 0 ∧ fl τ 152 0 = fl τ0 28 0) ∧ ((nn π : Int) ≤ cF ∧ (sw π : Int) ≤ wF + 4 * cpc π σ 43)
theorem NXt.lf {σ τ : St} (h : NXt N σ τ) : 1 ≤ lf τ := by
  rw [lf_def]
  rcases h τ (fun _ _ => rfl) (fun _ => rfl) with ⟨-, τ2, -, h1, h2, h3⟩ | ⟨-, h2⟩
  · have := h2.2.2.2.1
    have := h1.1 1 0 (by omega)
    omega
  · have := h2.2.2.2.1
    omega
theorem take_end {π0 π π1 π2 : Sh} {σ0 τ0 σ τ σ1 τ1 σ2 τ2 : St} {cA wA D V : Int} {dl : List (Int × Int)} (hN : 30000001 ≤ N) (hB : BSc τ0) (h56 : 56 ≤ nn π0) (h : RS N π0 σ0 τ0 cA wA dl π σ τ) (k0 : fl τ 3 0 ≠ 0) (nx : NXt N σ1 τ1) (z1 : fl τ 4 0 + 3 ≤ fl τ1 4 0) (z3 : fl τ1 16 0 + 3 * lf τ1 ≤ fl τ 16 0 + 3 * lf τ) (u1 : fl τ1 1 0 = fl τ 1 0) (y2 : fl σ1 182 1 = 0 ∧ fl σ1 184 1 = 0) (rn1 : (nn π1 : Int) + 12 * lf τ1 + 20 ≤ nn π + 12 * lf τ) (rn2 : (sw π1 : Int) + 174 * lf τ1 + 235 ≤ sw π + 174 * lf τ) (hV : V = fl τ 28 0) (a1 : SHs π2) (a2 : KCf π σ π2 σ2) (a3 : LD π2 σ2 43 (dl.map Prod.fst)) (a4 : cpc π2 σ2 43 = cpc π σ 43) (a5 : GRW π σ τ π2 σ2 τ2) (a6 : KRf τ τ2) (a7 : fl τ2 28 0 = V) (a8 : fl τ2 36 0 = dl.length) (a9 : fl τ2 11 0 = 0) (a10 : ∀ j : Int, el τ2 77 j = el τ 77 j) (a10' : ∀ j : Int, el τ2 97 j = el τ1 97 j) (a11 : ∀ f : Nat, f = 1 ∨ (3 ≤ f ∧ f ≤ 10) → fl τ2 f 0 = fl τ1 f 0) (a12 : ∀ f : Nat, 149 ≤ f → f ≤ 152 → fl τ2 f 0 = fl τ f 0) (a13 : fl τ2 16 0 ≤ fl τ1 16 0) (a14 : fl σ2 87 3 = fl τ2 64 0 ∧ 0 ≤ fl τ2 64 0 ∧ fl τ2 64 0 ≤ 200 ∧ fl σ2 88 3 = 0) (a15 : fl τ2 48 0 ≤ fl τ0 48 0 + fl τ2 64 0 ∧ fl τ2 61 0 ≤ fl τ0 61 0 + 2 * fl τ2 64 0) (a16 : ∀ f : Nat, 181 ≤ f → f ≤ 190 → fl σ2 f 1 = fl σ1 f 1) (a17 : ∀ j : Int, el σ2 2 j = el σ1 2 j) (a18 : RNm (fl σ2 20 D) (el τ2 83 V) (el τ2 82 V)) (oD : ob π2 D 1) (a19 : (nn π2 : Int) ≤ nn π1 + 2 * (fl τ2 64 0 - fl τ 64 0)) (a20 : (sw π2 : Int) ≤ sw π1 + 7 * (fl τ2 64 0 - fl τ 64 0) + (fl τ2 61 0 - fl τ 61 0)) (a21 : ∀ (π' : Sh) (σ' τ' : St), HX π2 σ2 π' σ' → TX τ2 τ' → fl τ' 28 0 = V + 1 → fl τ' 16 0 = fl τ2 16 0 → (∀ a j : Int, a ≠ 77 → el τ' a j = el τ2 a j) → DFx N π' σ' τ' (D, V)) : ∃ π3 σ3 τ3 dl', Cs_takeLine_39 N π2 σ2 D = some (π3, σ3, 1) ∧ r_line_118 N τ2 V = some τ3 ∧ fl τ3 11 0 = 0 ∧ ((fl τ3 3 0 = 1 ∧ ∃ τ4, r_advance N τ3 = some τ4 ∧ RS N π0 σ0 τ0 cA wA dl' π3 σ3 τ4 ∧ fl τ 4 0 + 1 ≤ fl τ4 4 0) ∨ (fl τ3 3 0 = 0 ∧ RS N π0 σ0 τ0 cA wA dl' π3 σ3 τ3 ∧ fl τ 4 0 + 1 ≤ fl τ3 4 0)) := by
  obtain ⟨⟨s1, s2, s3, s4⟩, ⟨t, f1, f2, f184⟩, ⟨c1, c2, c3, c4⟩, ⟨hL, h36, hA, hD⟩, hF, hSv, ⟨n1, n2, n3⟩, hNd, ⟨rm1, rm2⟩, pa1, pa2⟩ := h
  obtain ⟨b1, b2, b3, b4, b5⟩ := hB
  have n3' := n3 k0
  have t4b := t.2.2.2.1
  have sz2 := t.1.2.2.1
  have V0 : 0 ≤ V ∧ V < 5000 := ⟨by have := s4.2.2.1; omega, by omega⟩
  have d7 : dl.length < 600 := by omega
  clear n2 n3
  obtain ⟨τw, hτw⟩ : ∃ τw, τw = sf τ2 28 0 (V + 1) := ⟨_, rfl⟩
  have wf : ∀ (f : Nat) (i : Int), f ≠ 28 → fl τw f i = fl τ2 f i := fun f i hf => by rw [hτw, fl_sfn _ _ _ _ hf]
  have we : ∀ a j : Int, el τw a j = el τ2 a j := fun a j => by rw [hτw]; rfl
  have w28 : fl τw 28 0 = V + 1 := by rw [hτw, fl_sfs]
  have A77 : At (fun i (e : Int × Int) => el τw 77 i = e.2) 0 dl := hA.mono (fun i e _ _ _ hq => by rw [we, a10]; exact hq)
  have nms : ∀ e ∈ dl, RNm (fl σ2 20 e.1) (el τw 83 e.2) (el τw 82 e.2) ∧ 0 ≤ e.2 ∧ e.2 < 6000 := fun e he => by
    obtain ⟨⟨q1, q2, q3, q4, q5, q6⟩, -⟩ := (hD e he).keep a5
    rw [we, we]
    exact ⟨q2, q5⟩
  have n56 := a1.1
  obtain ⟨π3, σ3, τ3, dl', g1, g2, g3, g4, g5, g6, g7, g8, g9, g10, g11, g12⟩ := tl_lp (N := N) (D := D) (V := V) (τ := τw) n56 a3 (by rw [wf 36 0 (by decide)]; exact a8) (by omega) A77 oD ⟨V0.1, by omega⟩ (by rw [we, we]; exact a18) nms dl.length N N 0 (by omega) (by omega) (by omega) (by omega) (by omega)
  have tf : ∀ (f : Nat) (i : Int), f ≠ 36 → f ≠ 28 → fl τ3 f i = fl τ2 f i := fun f i x y => by rw [g11 f i x, wf f i y]
  have te : ∀ a j : Int, a ≠ 77 → el τ3 a j = el τ2 a j := fun a j x => by rw [g12 a j x, we]
  have v28 : fl τ3 28 0 = V + 1 := by rw [g11 28 0 (by decide)]; exact w28
  have gr : GRW π2 σ2 τ2 π3 σ3 τ3 := ⟨g3.hx (Or.inr rfl) a3.ar, TX.eq (tf 48 0 (by decide) (by decide)) (tf 61 0 (by decide) (by decide)) (fun a j x y => te a j (by omega)), ⟨by omega, by omega⟩, by rw [tf 16 0 (by decide) (by decide)]; exact Int.le_refl _, fun a v x y _ => te a v (by omega), fun a v x y _ => te a v (by omega)⟩
  have grt : GRW π σ τ π3 σ3 τ3 := a5.tr gr
  have kc : KCf π0 σ0 π3 σ3 := s2.tr (a2.ls g3)
  have kr : KRf τ0 τ3 := s3.tr (a6.tr ⟨fun f i x => tf f i (by unfold xR at x; omega) (by unfold xR at x; omega), fun a j x y => te a j (by omega)⟩)
  have hS3 : SHs π3 := a1.ext g3.1
  have c43 := a3.a56
  have s3f : ∀ (f : Nat) (i : Int), i < 56 → i ≠ 43 → fl σ3 f i = fl σ2 f i := fun f i x y => g3.2.1 f i (by omega) (by omega)
  have s3e : ∀ a j : Int, 0 ≤ a → a < 56 → el σ3 a j = el σ2 a j := fun a j x y => g3.2.2.1 a j (by omega) (by omega)
  have tkc : ∀ τf, TKr σ1 τf → TKr σ3 τf := fun τf q => q.cg (fun f hf => by rw [s3f f 1 (by omega) (by omega), a16 f (by omega) (by omega)]) (fun j => by rw [s3e 2 j (by omega) (by omega), a17]) (fun _ _ => rfl) (fun _ => rfl)
  have f11 : fl τ3 11 0 = 0 := by rw [tf 11 0 (by decide) (by decide)]; exact a9
  have v64 : fl τ3 64 0 = fl τ2 64 0 := tf 64 0 (by decide) (by decide)
  have v61 : fl τ3 61 0 = fl τ2 61 0 := tf 61 0 (by decide) (by decide)
  have v48 : fl τ3 48 0 = fl τ2 48 0 := tf 48 0 (by decide) (by decide)
  have v16 : fl τ3 16 0 = fl τ2 16 0 := tf 16 0 (by decide) (by decide)
  have v1 : fl τ3 1 0 = fl τ1 1 0 := by rw [tf 1 0 (by decide) (by decide), a11 1 (by omega)]
  have v4 : fl τ3 4 0 = fl τ1 4 0 := by rw [tf 4 0 (by decide) (by decide), a11 4 (by omega)]
  have v3 : fl τ3 3 0 = fl τ1 3 0 := by rw [tf 3 0 (by decide) (by decide), a11 3 (by omega)]
  have key : ∀ τf, SFr τ3 τf → TKr σ3 τf → fl τ1 4 0 ≤ fl τf 4 0 → (fl τf 3 0 ≠ 0 → fl τ1 4 0 + 1 ≤ fl τf 4 0) → RS N π0 σ0 τ0 cA wA dl' π3 σ3 τf := by
    intro τf w1 w2 w3 w4
    have wg : GRW π3 σ3 τ3 π3 σ3 τf := ⟨HX.rf _ _, TX.eq (w1.1 48 0 (by omega)) (w1.1 61 0 (by omega)) (fun a j _ _ => w1.2 a j), ⟨by rw [w1.1 28 0 (by omega)]; exact Int.le_refl _, by rw [w1.1 28 0 (by omega)]; omega⟩, by rw [w1.1 16 0 (by omega)]; exact Int.le_refl _, fun a v _ _ _ => w1.2 a v, fun a v _ _ _ => w1.2 a v⟩
    have e28 : fl τf 28 0 = V + 1 := by rw [w1.1 28 0 (by omega)]; exact v28
    have e64 : fl τf 64 0 = fl τ2 64 0 := by rw [w1.1 64 0 (by omega)]; exact v64
    have e61 : fl τf 61 0 = fl τ2 61 0 := by rw [w1.1 61 0 (by omega)]; exact v61
    have e48 : fl τf 48 0 = fl τ2 48 0 := by rw [w1.1 48 0 (by omega)]; exact v48
    have e16 : fl τf 16 0 = fl τ2 16 0 := by rw [w1.1 16 0 (by omega)]; exact v16
    have e1 : fl τf 1 0 = fl τ1 1 0 := by rw [w1.1 1 0 (by omega)]; exact v1
    have lfl : lf τf ≤ lf τ1 := by unfold lf; rw [e1]; omega
    have krf := kr.sc w1
    have sv : ∀ f : Nat, 149 ≤ f → f ≤ 152 → fl τf f 0 = fl τ f 0 := fun f x y => by rw [w1.1 f 0 (by omega), tf f 0 (by omega) (by omega), a12 f x y]
    have cpb := g4.cp
    refine ⟨⟨hS3, kc, krf, s4.tr (grt.tr wg)⟩, ⟨w2, by rw [s3f 182 1 (by omega) (by omega), a16 182 (by omega) (by omega)]; exact y2.1, by rw [w1.1 11 0 (by omega)]; exact f11, by rw [s3f 184 1 (by omega) (by omega), a16 184 (by omega) (by omega)]; exact y2.2⟩, by rw [s3f 87 3 (by omega) (by omega), s3f 88 3 (by omega) (by omega), e64]; exact a14, ⟨g4, by rw [w1.1 36 0 (by omega)]; exact g5, g6.mono (fun i e _ _ _ hq => by rw [w1.2]; exact hq), fun e he => ?_⟩, ⟨?_, ?_, ?_⟩, by rw [sv 149 (by omega) (by omega), sv 150 (by omega) (by omega), sv 151 (by omega) (by omega), sv 152 (by omega) (by omega)]; exact hSv, ⟨by omega, by omega, fun q => by have := w4 q; omega⟩, by omega, ⟨by omega, ?_⟩, by omega, by omega⟩
    · rcases g7 e he with q | q
      · exact (hD e q).keep (grt.tr wg)
      · rw [q]; exact (a21 π3 σ3 τ3 gr.1 gr.2.1 v28 v16 te).keep wg
    · have gg := hF.1
      have x43 := hL.a56
      unfold FNc at gg ⊢
      exact gg.mono (fun i e _ _ _ hq => by rw [s3e 45 i (by omega) (by omega), a2.2.2.1 45 i (by decide) (by have := s1.1; omega) (by decide) (by omega)]; exact hq)
    · have gg := hF.2.1
      unfold FNr at gg ⊢
      exact gg.mono (fun i e _ _ _ hq => by rw [w1.2, te _ _ (by decide), a6.2 96 i (by decide) (by decide)]; exact hq)
    · intro f x y
      rw [w1.2, te _ _ (by decide), a6.2 95 f (by decide) (by decide)]
      exact hF.2.2 f x y
    · rw [e64, e61]; omega
  refine ⟨π3, σ3, τ3, dl', ?_, ?_, f11, ?_⟩
  · rw [Cs_takeLine_39, a14.2.2.2, grd_t (by decide), if_pos rfl]
    exact g1
  · rw [r_line_118, a9, grd_t (by decide), if_pos rfl, a7, ← hτw]
    exact g2
  · rcases nx τ3 (fun f hf => by rw [tf f 0 (by omega) (by omega), a11 f hf]) (fun j => by rw [te 97 j (by decide), a10']) with ⟨q1, τ4, q2, q3, q4, q5⟩ | ⟨q1, q2⟩
    · exact Or.inl ⟨by omega, τ4, q2, key τ4 q3 (tkc _ q4) (by omega) (fun _ => q5), by omega⟩
    · exact Or.inr ⟨by omega, key τ3 (SFr.rf _) (tkc _ q2) (by omega) (fun q => by omega), by omega⟩
theorem line_all {π0 π : Sh} {σ0 τ0 σ τ : St} {cA wA : Int} {dl : List (Int × Int)} (hN : 30000001 ≤ N) (hB : BSc τ0) (h42 : fl σ0 1 42 < nn π0) (h56 : 56 ≤ nn π0) (h : RS N π0 σ0 τ0 cA wA dl π σ τ) (k10 : fl σ 185 1 ≠ 10) (k6 : fl σ 185 1 ≠ 6) : ∃ π1 σ1 r π2 σ2 v τ2, Rd_line N π σ = some (π1, σ1, r) ∧ Cs_takeLine N π1 σ1 r = some (π2, σ2, v) ∧ r_line N τ = some τ2 ∧ ((v = 0 ∧ FTS π0 σ0 τ0 (cA + 1620) (wA + fl τ0 61 0 + 14637) π2 σ2 τ2) ∨ (v = 1 ∧ ∃ dl', fl τ2 11 0 = 0 ∧ ((fl τ2 3 0 = 1 ∧ ∃ τ3, r_advance N τ2 = some τ3 ∧ RS N π0 σ0 τ0 cA wA dl' π2 σ2 τ3 ∧ fl τ 4 0 + 1 ≤ fl τ3 4 0) ∨ (fl τ2 3 0 = 0 ∧ RS N π0 σ0 τ0 cA wA dl' π2 σ2 τ2 ∧ fl τ 4 0 + 1 ≤ fl τ2 4 0)))) := by
  obtain ⟨⟨s1, s2, s3, s4⟩, ⟨t, f1, f2, f184⟩, ⟨c1, c2, c3, c4⟩, ⟨hL, h36, hA, hD⟩, hF, hSv, ⟨n1, n2, n3⟩, hNd, ⟨rm1, rm2⟩, pa1, pa2⟩ := id h
  obtain ⟨b1, b2, b3, b4, b5⟩ := id hB
  have kd := t.kd
  have lft := t.lf
  have k0 : fl τ 3 0 ≠ 0 := fun q => k6 (kd.2.2.2.2.2.2.2.2 q)
  have n3' := n3 k0
  have e0 := s2.1.1
  have sz : fl τ 1 0 = fl τ0 1 0 := s3.1 1 0 (by unfold xR; omega)
  have sz2 := t.1.2.2.1
  have t4b := t.2.2.2.1
  have g28 := s4.2.2.1
  have g16 := s4.2.2.2.1
  have V0 : 0 ≤ fl τ 28 0 ∧ fl τ 28 0 < 5000 := ⟨by omega, by omega⟩
  have e142 : fl σ 1 42 = fl σ0 1 42 := s2.2.1 1 42 (by omega) (by unfold xC; omega)
  obtain ⟨π1, σ1, r, p1, lc, hS1, p2⟩ := both_line (N := N) (dl := dl) hN s1 t f1 f2 f184 hF ⟨V0.1, by omega⟩ (by omega) hL h36 hA (fun e he => ⟨(hD e he).1, (hD e he).2.1⟩) ⟨by omega, by omega⟩ k10
  have n56 := s1.1
  have kc1 : KCf π σ π1 σ1 := lc.kc n56
  have e1 := lc.1.1
  have f43 : ∀ f : Nat, f ≤ 2 → fl σ1 f 43 = fl σ f 43 := fun f hf => lc.2.1 f 43 (by omega) (by omega) (by omega) (by omega)
  have hL1 : LD π1 σ1 43 (dl.map Prod.fst) := hL.keep lc.1 ⟨f43 1 (by omega), f43 2 (by omega)⟩ (fun h0 j => lc.2.2 _ j h0 (by rcases hL.ar with q | q <;> omega))
  have cp1 : cpc π1 σ1 43 = cpc π σ 43 := cpc_eq (f43 1 (by omega)) lc.1 (by rcases hL.ar with q | q <;> omega)
  have m3 : ∀ f : Nat, fl σ1 f 3 = fl σ f 3 := fun f => lc.2.1 f 3 (by omega) (by omega) (by omega) (by omega)
  rcases p2 with ⟨rfl, τ1, q1, lr, fl1, q2, q3⟩ | ⟨rfl, τ1, q1, lr, P, o, n, w, z, L, Kn, k, b, ⟨d1, d2, d3, d4⟩, ⟨v1, v2, v3⟩, ⟨x1, x2, x3, x4, x5, x6⟩, hU, ⟨y1, y2, y3⟩, nx, ⟨z1, z2, z3⟩, rn1, rn2⟩
  · -- a fault of reading
    have u : ∀ f : Nat, 14 ≤ f → f ≠ 16 → f ≠ 38 → f ≠ 41 → f ≠ 46 → f ≠ 47 → fl τ1 f 0 = fl τ f 0 := fun f a1 a2 a3 a4 a5 a6 => lr.1 f 0 (by omega) a2 a3 a4 a5 a6
    obtain ⟨g1, g2, g3⟩ := fl1
    refine ⟨π1, σ1, -1, π1, σ1, 0, τ1, p1, ?_, q1, Or.inl ⟨rfl, ⟨hS1, s2.tr kc1, s3.tr lr.kr, s4.tb lr.tb⟩, ⟨g3.1, by omega⟩, Or.inl ⟨g1, g2⟩, ?_, ⟨_, hL1⟩, ?_, ?_, ?_⟩⟩
    · rw [Cs_takeLine, if_pos (by decide), grd_t (by rw [g1]; exact ⟨by omega, by omega⟩), if_neg (by omega)]
    · rw [m3 87, u 64 (by decide) (by decide) (by decide) (by decide) (by decide) (by decide)]
      exact ⟨c1, c2, c3⟩
    · rw [u 149 (by decide) (by decide) (by decide) (by decide) (by decide) (by decide), u 150 (by decide) (by decide) (by decide) (by decide) (by decide) (by decide), u 151 (by decide) (by decide) (by decide) (by decide) (by decide) (by decide), u 152 (by decide) (by decide) (by decide) (by decide) (by decide) (by decide)]
      exact hSv
    · omega
    · rw [cp1]; omega
  · -- a line was read
    have u : ∀ f : Nat, 14 ≤ f → f ≠ 16 → f ≠ 38 → f ≠ 41 → f ≠ 46 → f ≠ 47 → fl τ1 f 0 = fl τ f 0 := fun f a1 a2 a3 a4 a5 a6 => lr.1 f 0 (by omega) a2 a3 a4 a5 a6
    have nlf := nx.lf
    have u28 : fl τ1 28 0 = fl τ 28 0 := u 28 (by decide) (by decide) (by decide) (by decide) (by decide) (by decide)
    have u36 : fl τ1 36 0 = fl τ 36 0 := u 36 (by decide) (by decide) (by decide) (by decide) (by decide) (by decide)
    have u48 : fl τ1 48 0 = fl τ 48 0 := u 48 (by decide) (by decide) (by decide) (by decide) (by decide) (by decide)
    have u61 : fl τ1 61 0 = fl τ 61 0 := u 61 (by decide) (by decide) (by decide) (by decide) (by decide) (by decide)
    have u64 : fl τ1 64 0 = fl τ 64 0 := u 64 (by decide) (by decide) (by decide) (by decide) (by decide) (by decide)
    have u1 : fl τ1 1 0 = fl τ 1 0 := lr.1 1 0 (by omega) (by decide) (by decide) (by decide) (by decide) (by decide)
    obtain ⟨V, hV⟩ : ∃ V, V = fl τ 28 0 := ⟨_, rfl⟩
    obtain ⟨D, hDd⟩ : ∃ D : Int, D = (nn π : Int) := ⟨_, rfl⟩
    rw [← hDd] at d1 d2 d4
    rw [← hV] at d4
    have oD : ob π1 D 1 := d1.1.1
    have P04 : fl σ1 22 D = P ∧ 0 ≤ P ∧ P ≤ 4 := d1.1.2
    have Dn : (56 : Int) ≤ D := by omega
    -- the reference writes the version down
    obtain ⟨τv, hτv⟩ : ∃ τv, τv = se (se (se τ1 81 V P) 80 V n) 79 V (-1) := ⟨_, rfl⟩
    have vf : ∀ (f : Nat) (i : Int), fl τv f i = fl τ1 f i := fun f i => by rw [hτv]; rfl
    have ve : ∀ a j : Int, ¬ (79 ≤ a ∧ a ≤ 81 ∧ j = V) → el τv a j = el τ1 a j := fun a j hx => by rw [hτv, el_se, if_neg (by omega), el_se, if_neg (by omega), el_se, if_neg (by omega)]
    have v81 : el τv 81 V = P := by rw [hτv, el_sen _ _ _ _ (by decide), el_sen _ _ _ _ (by decide), el_ses]
    have v80 : el τv 80 V = n := by rw [hτv, el_sen _ _ _ _ (by decide), el_ses]
    have hx1 : HX π σ π1 σ1 := kc1.hx n56 hL.ar
    have txv : TX τ τv := TX.eq (by rw [vf, u48]) (by rw [vf, u61]) (fun a j x y => by rw [ve a j (by omega), lr.2.1 a j (by omega) (by omega) (by omega)])
    have tab : ∀ a v : Int, 79 ≤ a → a ≤ 83 → v < fl τ 28 0 → el τv a v = el τ a v := fun a v x y z => by rw [ve a v (by omega), lr.2.1 a v (by omega) (by omega) (by omega)]
    have nod : ∀ a i : Int, 85 ≤ a → a ≤ 94 → i < fl τ 16 0 → el τv a i = el τ a i := fun a i x y z => by rw [ve a i (by omega), lr.2.2 a i (by omega) y z]
    have txe : TX τ1 τv := TX.eq (vf 48 0) (vf 61 0) (fun a j x y => ve a j (by omega))
    have dsv : ∀ n0 s0 K0 : Int, DS (π1, σ1, τv, n0, s0, K0) D P L Kn o := fun n0 s0 K0 => DS.grow (g := (π1, σ1, τ1, n0, s0, K0)) (g' := (π1, σ1, τv, n0, s0, K0)) (HX.rf _ _) txe (d1.ds d2)
    have sq := bdy_sq d1
    -- uses that stand in the body
    have uses : ∀ (x : Nat) (π' : Sh) (σ' τ' : St) (n0 s0 K0 V' : Int), x ≤ 12 → HX π σ π' σ' → TX τ τ' → (fl τ 28 0 ≤ V' ∧ V' ≤ 6000) → (∀ a v : Int, 80 ≤ a → a ≤ 81 → v < fl τ 28 0 → el τ' a v = el τ a v) → (∀ a i : Int, 85 ≤ a → a ≤ 94 → i < fl τ 16 0 → el τ' a i = el τ a i) → ∀ y ∈ L, y.1 = 99 → UDb N V' x (π', σ', τ', n0, s0, K0) (fl τ 16 0) y := fun x π' σ' τ' n0 s0 K0 V' hx a1 a2 a3 a4 a5 y hy h9 => by
      obtain ⟨w1, w2⟩ := hU y hy h9
      exact (hD _ w1).at a1 a2 a3 a4 a5 rfl rfl w2 (sq y hy h9) hx
    have cls : Cs_takeLine N π1 σ1 D = if P = 0 then Option.bind (Mk_make N π1 σ1 D) (fun r5 => Cs_takeLine_36 N r5.1 r5.2.1 D r5.2.2 D) else Cs_takeLine_39 N π1 σ1 D := by
      rw [Cs_takeLine, if_neg (by omega), grd_t oD, P04.1, grd_t (by exact ⟨by omega, by omega⟩)]
    have rfc : r_line N τ = if P = 0 then Option.bind (r_makes N τv n) (fun r21 => r_line_118 N (sf (se r21.1 79 V r21.2) 16 0 (fl τ 16 0)) V) else r_line_118 N τv V := by
      rw [q1, r_line_52, y1, grd_t (by decide), if_pos rfl, u28, ← hV, grd_t (by exact ⟨by omega, by omega⟩), d3, grd_t (by exact ⟨by omega, by omega⟩), x1, ← hτv, bnd]
    have txv1 : fl τv 28 0 = V ∧ fl τv 36 0 = dl.length ∧ fl τv 11 0 = 0 := ⟨by rw [vf, u28, hV], by rw [vf, u36]; exact h36, by rw [vf]; exact y1⟩
    have krv : KRf τ τv := lr.kr.tr ⟨fun f i _ => vf f i, fun a j x y => ve a j (by omega)⟩
    have e77 : ∀ j : Int, el τv 77 j = el τ 77 j := fun j => by rw [ve 77 j (by omega), lr.2.1 77 j (by omega) (by omega) (by omega)]
    have hV6 : fl τ 28 0 ≤ V + 1 ∧ V + 1 ≤ 6000 := ⟨by omega, by omega⟩
    by_cases cP : P = 0
    · -- it is made
      rw [if_pos cP] at cls rfc
      subst cP
      have us : ∀ y ∈ L, y.1 = 99 → UDl N 12 (π1, σ1, τv, (nn π1 : Int) - 2 * fl τv 64 0, (sw π1 : Int) - 7 * fl τv 64 0 - fl τv 61 0, fl τv 61 0 + 2 * (200 - fl τv 64 0) + 10) (fl τ 16 0) y := fun y hy h9 => UDb.ul _ _ _ (uses 12 π1 σ1 τv _ _ _ (fl τ 28 0) (by decide) hx1 txv ⟨Int.le_refl _, by omega⟩ (fun a v a1 a2 a3 => tab a v (by omega) (by omega) a3) nod y hy h9)
      have tk := v3.use (x := 12) (by decide)
      rw [v1, v2, show (12 : Int) - ((12 : Nat) : Int) = 0 by omega, show (13 : Int) - ((12 : Nat) : Int) = 1 by omega] at tk
      have tkv := tk.mono (τq := τv) (Nat.le_refl _) (Int.le_refl _) (Int.le_refl _) (fun a i a1 a2 _ _ => ve a i (by omega)) (List.prefix_refl _) (Int.le_refl _) (Int.le_refl _) (Int.le_refl _) (Int.le_refl _) (fun _ hx => hx) (fun _ hx => hx)
      have H1 : HLv 1 = 18100 := by unfold HLv; omega
      have w64 : fl τv 64 0 = fl τ 64 0 := by rw [vf, u64]
      have w61 : fl τv 61 0 = fl τ 61 0 := by rw [vf, u61]
      have w48 : fl τv 48 0 = fl τ 48 0 := by rw [vf, u48]
      obtain ⟨tx48, tx61, -, -⟩ := id s4.2.1
      obtain ⟨π2, σ2, τ2, r, p, m1, m2, ⟨fc, fr, hS2, a14, a88, anf, asf, alt⟩⟩ := both_make (N := N) hN hS1 (dsv _ _ _) us tkv (by omega) (by omega) (by omega) (by rw [m3 87, w64]; exact ⟨c1, c2, c3⟩) ⟨by rw [m3 88]; exact c4, txv1.2.2⟩ rfl rfl ⟨rfl, by omega, by omega⟩ ⟨by omega, by omega⟩
      simp only at anf asf alt
      have en := fc.1.1
      simp only at en
      have n561 := hS1.1
      have kc2 : KCf π σ π2 σ2 := KCf.mk (g := (π1, σ1, τv, (nn π1 : Int) - 2 * fl τv 64 0, (sw π1 : Int) - 7 * fl τv 64 0 - fl τv 61 0, fl τv 61 0 + 2 * (200 - fl τv 64 0) + 10)) kc1 fc n561
      obtain ⟨σ3, hσ3⟩ : ∃ σ3, σ3 = sf σ2 26 D r := ⟨_, rfl⟩
      have g3 : ∀ (f : Nat) (i : Int), ¬ (f = 26 ∧ i = D) → fl σ3 f i = fl σ2 f i := fun f i hx => by rw [hσ3, fl_sf, if_neg hx]
      have g3e : ∀ a j : Int, el σ3 a j = el σ2 a j := fun a j => by rw [hσ3]; rfl
      have kc3 : KCf π σ π2 σ3 := kc2.step (ext.rf _) (fun f i hi _ => g3 f i (by omega)) (fun a j _ _ _ _ => g3e a j) (Or.inl (g3 1 43 (by omega)))
      have fcf : ∀ (f : Nat) (i : Int), i < nn π1 → ¬ (i = 3 ∧ 85 ≤ f ∧ f ≤ 89) → fl σ2 f i = fl σ1 f i := fun f i x y => fc.2.1 f i x y
      have fce : ∀ a j : Int, a < nn π1 → ¬ (5 ≤ a ∧ a ≤ 8) → el σ2 a j = el σ1 a j := fun a j x y => fc.2.2 a j x y
      have c43 := hL1.a56
      have ar1 := hL1.ar
      have hL3 : LD π2 σ3 43 (dl.map Prod.fst) := hL1.keep fc.1 ⟨by rw [g3 1 43 (by omega), fcf 1 43 (by omega) (by omega)], by rw [g3 2 43 (by omega), fcf 2 43 (by omega) (by omega)]⟩ (fun h0 j => by rw [g3e, fce _ j (by rcases ar1 with q | q <;> omega) (by omega)])
      have cp3 : cpc π2 σ3 43 = cpc π σ 43 := by rw [← cp1]; exact cpc_eq (by rw [g3 1 43 (by omega), fcf 1 43 (by omega) (by omega)]) fc.1 (by rcases ar1 with q | q <;> omega)
      have frf : ∀ f : Nat, f ≠ 11 → f ≠ 12 → f ≠ 48 → f ≠ 61 → f < 64 ∨ 83 < f → fl τ2 f 0 = fl τv f 0 := fun f e1 e2 e3 e4 e5 => fr.1 f 0 e1 e2 e3 e4 (by omega) (by omega) (by omega) (by omega) (by omega) (by omega)
      have fre : ∀ a j : Int, ¬ (53 ≤ a ∧ a ≤ 70) → a ≠ 84 → el τ2 a j = el τv a j := fun a j x y => fr.2.1 a j x y
      have frt : TX τv τ2 := fr.2.2
      have oD2 : ob π2 D 1 := oD.ext fc.1
      rcases alt with ⟨k11, k5, kpr, knn, ksw, k61, kkd, k48, k48', -⟩ | ⟨k11, rfl, rfl, k89⟩
      · obtain ⟨τ3, hτ3⟩ : ∃ τ3, τ3 = sf (se τ2 79 V p) 16 0 (fl τ 16 0) := ⟨_, rfl⟩
        have h3f : ∀ (f : Nat) (i : Int), f ≠ 16 → fl τ3 f i = fl τ2 f i := fun f i hf => by rw [hτ3, fl_sfn _ _ _ _ hf, fl_se]
        have h3e : ∀ a j : Int, ¬ (a = 79 ∧ j = V) → el τ3 a j = el τ2 a j := fun a j hx => by rw [hτ3, el_sf, el_se, if_neg hx]
        have h316 : fl τ3 16 0 = fl τ 16 0 := by rw [hτ3, fl_sfs]
        have tx3 : TX τ2 τ3 := TX.eq (h3f 48 0 (by decide)) (h3f 61 0 (by decide)) (fun a j x y => h3e a j (by omega))
        have gr3 : GRW π σ τ π2 σ3 τ3 := ⟨kc3.hx n56 hL.ar, (txv.tr frt).tr tx3, ⟨by rw [h3f 28 0 (by decide), frf 28 (by decide) (by decide) (by decide) (by decide) (by omega), txv1.1]; omega, by rw [h3f 28 0 (by decide), frf 28 (by decide) (by decide) (by decide) (by decide) (by omega), txv1.1]; omega⟩, by omega, fun a v x y q => by rw [h3e a v (by omega), fre a v (by omega) (by omega), tab a v x y q], fun a i x y q => by rw [h3e a i (by omega), fre a i (by omega) (by omega), nod a i x y q]⟩
        have kr3 : KRf τ τ3 := (KRf.mk (g := (π1, σ1, τv, (nn π1 : Int) - 2 * fl τv 64 0, (sw π1 : Int) - 7 * fl τv 64 0 - fl τv 61 0, fl τv 61 0 + 2 * (200 - fl τv 64 0) + 10)) krv fr).tr ⟨fun f i x => h3f f i (by unfold xR at x; omega), fun a j x y => h3e a j (by omega)⟩
        have e64 := h3f 64 0 (by decide)
        have e61 := h3f 61 0 (by decide)
        have e48 := h3f 48 0 (by decide)
        have pm : fl τ2 48 0 + 200 ≤ (fl τv 48 0 - fl τv 64 0 + 200) + fl τ2 64 0 := k48'
        obtain ⟨π4, σ4, τ4, dl', o1, o2, o3, o4⟩ := take_end (N := N) (D := D) (V := V) (π1 := π1) (σ1 := σ1) (τ1 := τ1) (π2 := π2) (σ2 := σ3) (τ2 := τ3) hN hB h56 h k0 nx z1 z3 u1 ⟨y2, y3⟩ rn1 rn2 hV hS2 kc3 hL3 cp3 gr3 kr3 (by rw [h3f 28 0 (by decide), frf 28 (by decide) (by decide) (by decide) (by decide) (by omega)]; exact txv1.1) (by rw [h3f 36 0 (by decide), frf 36 (by decide) (by decide) (by decide) (by decide) (by omega)]; exact txv1.2.1) (by rw [h3f 11 0 (by decide)]; exact k11) (fun j => by rw [h3e 77 j (by omega), fre 77 j (by decide) (by decide), e77]) (fun j => by rw [h3e 97 j (by omega), fre 97 j (by decide) (by decide), ve 97 j (by omega)]) (fun f hf => by rw [h3f f 0 (by omega), frf f (by omega) (by omega) (by omega) (by omega) (by omega), vf]) (fun f x y => by rw [h3f f 0 (by omega), frf f (by omega) (by omega) (by omega) (by omega) (by omega), vf, u f (by omega) (by omega) (by omega) (by omega) (by omega) (by omega)]) (by omega) ⟨by rw [g3 87 3 (by omega), e64]; exact a14.1, by omega, by omega, by rw [g3 88 3 (by omega), a88]; exact k11⟩ ⟨by omega, by omega⟩ (fun f x y => by rw [g3 f 1 (by omega), fcf f 1 (by omega) (by omega)]) (fun j => by rw [g3e, fce 2 j (by omega) (by omega)]) (by rw [g3 20 D (by omega), fcf 20 D oD.2.1 (by omega), h3e 83 V (by omega), h3e 82 V (by omega), fre 83 V (by decide) (by decide), fre 82 V (by decide) (by decide), ve 83 V (by omega), ve 82 V (by omega)]; exact d4) oD2 (by omega) (by omega) (fun π' σ' τ' hx ht h28 h16 hel => by
          have l2 := oD2.2.1
          have q22 : fl σ' 22 D = 0 := by rw [hx.fd (in1 (by omega)) l2, g3 22 D (by omega), fcf 22 D oD.2.1 (by omega)]; exact P04.1
          have q81 : el τ' 81 V = 0 := by rw [hel 81 V (by decide), h3e 81 V (by omega), fre 81 V (by decide) (by decide)]; exact v81
          refine ⟨⟨oD2.ext hx.1, ?_, ?_, ?_, ⟨by omega, by omega⟩, fun _ => ?_⟩, by rw [h28]; show V < V + 1; omega, fun q => ?_⟩
          · show RNm (fl σ' 20 D) (el τ' 83 V) (el τ' 82 V)
            rw [hx.fd (in1 (by omega)) l2, g3 20 D (by omega), fcf 20 D oD.2.1 (by omega), hel 83 V (by decide), hel 82 V (by decide), h3e 83 V (by omega), h3e 82 V (by omega), fre 83 V (by decide) (by decide), fre 82 V (by decide) (by decide), ve 83 V (by omega), ve 82 V (by omega)]
            exact d4
          · show fl σ' 22 D = el τ' 81 V
            rw [q22, q81]
          · show 0 ≤ fl σ' 22 D ∧ fl σ' 22 D ≤ 4
            rw [q22]; decide
          · show ob π' (fl σ' 26 D) 5 ∧ PRn π' σ' τ' (fl σ' 26 D) (el τ' 79 V)
            have q26 : fl σ' 26 D = r := by rw [hx.fd (in1 (by omega)) l2, hσ3, fl_sfs]
            have q79 : el τ' 79 V = p := by rw [hel 79 V (by decide), hτ3, el_sf, el_ses]
            rw [q26, q79]
            refine ⟨k5.ext hx.1, PRn.grow hx ht (kpr.growP ⟨ext.rf _, fun f i _ h1 _ => g3 f i (by omega), fun a j _ _ _ => g3e a j⟩ tx3)⟩
          · have q' : 1 ≤ el τ' 81 V := q
            omega)
        refine ⟨π1, σ1, D, π4, σ4, 1, τ4, by rw [hDd]; exact p1, ?_, ?_, Or.inr ⟨rfl, dl', o3, o4⟩⟩
        · rw [cls, m1, Option.bind_some]
          simp only
          rw [Cs_takeLine_36, grd_t oD2, ← hσ3]
          exact o1
        · rw [rfc, m2, Option.bind_some]
          simp only
          rw [← hτ3]
          exact o2
      · obtain ⟨τ3, hτ3⟩ : ∃ τ3, τ3 = sf (se τ2 79 V (-1)) 16 0 (fl τ 16 0) := ⟨_, rfl⟩
        have h3f : ∀ (f : Nat) (i : Int), f ≠ 16 → fl τ3 f i = fl τ2 f i := fun f i hf => by rw [hτ3, fl_sfn _ _ _ _ hf, fl_se]
        have h3e : ∀ a j : Int, ¬ (a = 79 ∧ j = V) → el τ3 a j = el τ2 a j := fun a j hx => by rw [hτ3, el_sf, el_se, if_neg hx]
        have kr3 : KRf τ τ3 := (KRf.mk (g := (π1, σ1, τv, (nn π1 : Int) - 2 * fl τv 64 0, (sw π1 : Int) - 7 * fl τv 64 0 - fl τv 61 0, fl τv 61 0 + 2 * (200 - fl τv 64 0) + 10)) krv fr).tr ⟨fun f i x => h3f f i (by unfold xR at x; omega), fun a j x y => h3e a j (by omega)⟩
        have tbl : TBl τ τ3 := ⟨fun a j x y q => by rw [h3e a j (by omega)]; exact ((txv.tr frt).2.2.1 a j x y q), fun a j x y => by rw [h3e a j (by omega)]; exact ((txv.tr frt).2.2.2 a j x y), fun a j x y q => by rw [h3e a j (by omega), fre a j (by omega) (by omega), tab a j x y q], fun a j x y q => by rw [h3e a j (by omega), fre a j (by omega) (by omega), nod a j x y q]⟩
        have f11 : fl τ3 11 0 = fl τ2 11 0 := h3f 11 0 (by decide)
        have sv : ∀ f : Nat, 149 ≤ f → f ≤ 152 → fl τ3 f 0 = fl τ f 0 := fun f x y => by rw [h3f f 0 (by omega), frf f (by omega) (by omega) (by omega) (by omega) (by omega), vf, u f (by omega) (by omega) (by omega) (by omega) (by omega) (by omega)]
        have e182 : fl σ3 182 1 = 0 := by rw [g3 182 1 (by omega), fcf 182 1 (by omega) (by omega)]; exact y2
        have e88 : fl σ3 88 3 = fl τ3 11 0 := by rw [g3 88 3 (by omega), a88, f11]
        refine ⟨π1, σ1, D, π2, σ3, 0, τ3, by rw [hDd]; exact p1, ?_, ?_, Or.inl ⟨rfl, ⟨hS2, s2.tr kc3, s3.tr kr3, s4.tb tbl⟩, ⟨by omega, by omega⟩, Or.inr ⟨e182, e88, by rw [g3 89 3 (by omega), k89, h3f 12 0 (by decide)]⟩, by rw [g3 87 3 (by omega), h3f 64 0 (by decide)]; exact a14, ⟨_, hL3⟩, by rw [sv 149 (by omega) (by omega), sv 150 (by omega) (by omega), sv 151 (by omega) (by omega), sv 152 (by omega) (by omega)]; exact hSv, by omega, by rw [cp3]; omega⟩⟩
        · rw [cls, m1, Option.bind_some]
          simp only
          rw [Cs_takeLine_36, grd_t oD2, ← hσ3, Cs_takeLine_39, e88, grd_t (by exact ⟨by omega, by omega⟩), if_neg (by omega)]
        · rw [rfc, m2, Option.bind_some]
          simp only
          rw [← hτ3, r_line_118, grd_t (by exact ⟨by omega, by omega⟩), if_neg (by omega)]
    · -- it waits for its parameters
      rw [if_neg cP] at cls rfc
      have w64 : fl τv 64 0 = fl τ 64 0 := by rw [vf, u64]
      have w61 : fl τv 61 0 = fl τ 61 0 := by rw [vf, u61]
      have w48 : fl τv 48 0 = fl τ 48 0 := by rw [vf, u48]
      have w16 : fl τv 16 0 = fl τ1 16 0 := vf 16 0
      have grv : GRW π σ τ π1 σ1 τv := ⟨hx1, txv, ⟨by omega, by omega⟩, by omega, tab, nod⟩
      obtain ⟨π4, σ4, τ4, dl', o1, o2, o3, o4⟩ := take_end (N := N) (D := D) (V := V) (π1 := π1) (σ1 := σ1) (τ1 := τ1) (π2 := π1) (σ2 := σ1) (τ2 := τv) hN hB h56 h k0 nx z1 z3 u1 ⟨y2, y3⟩ rn1 rn2 hV hS1 kc1 hL1 cp1 grv krv txv1.1 txv1.2.1 txv1.2.2 e77 (fun j => ve 97 j (by omega)) (fun f _ => vf f 0) (fun f x y => by rw [vf, u f (by omega) (by omega) (by omega) (by omega) (by omega) (by omega)]) (by omega) ⟨by rw [m3 87, w64]; exact c1, by omega, by omega, by rw [m3 88]; exact c4⟩ ⟨by omega, by omega⟩ (fun _ _ _ => rfl) (fun _ => rfl) (by rw [ve 83 V (by omega), ve 82 V (by omega)]; exact d4) oD (by omega) (by omega) (fun π' σ' τ' hx ht h28 h16 hel => by
        have l2 := oD.2.1
        have q22 : fl σ' 22 D = P := by rw [hx.fd (in1 (by omega)) l2]; exact P04.1
        have q81 : el τ' 81 V = P := by rw [hel 81 V (by decide)]; exact v81
        have q80 : el τ' 80 V = n := by rw [hel 80 V (by decide)]; exact v80
        refine ⟨⟨oD.ext hx.1, ?_, ?_, ?_, ⟨by omega, by omega⟩, fun q => ?_⟩, by rw [h28]; show V < V + 1; omega, fun _ => ?_⟩
        · show RNm (fl σ' 20 D) (el τ' 83 V) (el τ' 82 V)
          rw [hx.fd (in1 (by omega)) l2, hel 83 V (by decide), hel 82 V (by decide), ve 83 V (by omega), ve 82 V (by omega)]
          exact d4
        · show fl σ' 22 D = el τ' 81 V
          rw [q22, q81]
        · show 0 ≤ fl σ' 22 D ∧ fl σ' 22 D ≤ 4
          rw [q22]; exact P04.2
        · have q' : fl σ' 22 D = 0 := q
          omega
        · intro x hx12 y y1' y2' y3'
          have y1'' : y.2.2.1 = D := y1'
          have y2'' : y.2.2.2.1 = V := y2'
          have y3'' : (y.2.2.2.2.2.2.2.length : Int) = P := by rw [← q81]; exact y3'
          cases x with
          | zero => trivial
          | succ x =>
            have tk := v3.use (x := x) (by omega)
            rw [v1, v2] at tk
            have hh : HLv (13 - (x : Int)) + 1300 = HLv (12 - (x : Int)) := by unfold HLv; omega
            refine ⟨⟨by omega, by omega, by omega⟩, P, L, Kn, o, n, fl τ 16 0, fl τ1 16 0, fl τ 16 0, HLv (13 - (x : Int)) + w, HLv (13 - (x : Int)) + z, k, ?_, y3'', ?_, ?_, ⟨by omega, by omega⟩, x4, by omega, by omega, ?_, ?_⟩
            · rw [y1'']
              exact DS.grow (g := (π1, σ1, τv, 0, 0, 0)) (g' := (π', σ', τ', 0, 0, 0)) hx ht (dsv 0 0 0)
            · rw [y2'']; exact q81
            · rw [y2'']; exact q80
            · exact tk.mono (Nat.le_refl _) (Int.le_refl _) (Int.le_refl _) (fun a i a1 a2 _ _ => by show el τ' a i = el τ1 a i; rw [hel a i (by omega), ve a i (by omega)]) (List.prefix_refl _) (Int.le_refl _) (Int.le_refl _) (Int.le_refl _) (Int.le_refl _) (fun _ hx => hx) (fun _ hx => hx)
            · rw [h28]
              exact uses x π' σ' τ' 0 0 0 (V + 1) (by omega) (hx1.tr hx) (txv.tr ht) hV6 (fun a v a1 a2 a3 => by rw [hel a v (by omega), tab a v (by omega) (by omega) a3]) (fun a i a1 a2 a3 => by rw [hel a i (by omega), nod a i a1 a2 a3]))
      refine ⟨π1, σ1, D, π4, σ4, 1, τ4, by rw [hDd]; exact p1, ?_, ?_, Or.inr ⟨rfl, dl', o3, o4⟩⟩
      · rw [cls]; exact o1
      · rw [rfc]; exact o2
end TK9
