/-! expressions: what reading one comes to; a name that stands for a pattern -/
/-- bytes that are left -/
def lf (τ : St) : Int := fl τ 1 0 + 1 - fl τ 4 0
theorem lf_def (τ : St) : lf τ = fl τ 1 0 + 1 - fl τ 4 0 := rfl
def PRE (τ : St) (L : List Stq) (Kn : List Int) : Prop := fl τ 16 0 + 3 * lf τ + 200 ≤ 32768 ∧ (L.length : Int) + 2 * lf τ + 200 ≤ 19000 ∧ (Kn.length : Int) + lf τ ≤ 9000
/-- a fault was met -/
def EXf (b : Bse) (Xo : Int → Prop) (L : List Stq) (Kn : List Int) (v : Int) (π : Sh) (σ τ : St) (π' : Sh) (σ' τ' : St) (t : Nat) : Prop := XQ b Xo π' σ' τ' (L.length + 2 * lf τ + 4 * (20 - fl τ 13 0) + v) (Kn.length + lf τ) ∧ RmE (bX b) (bY b) π σ π' σ' (12 * lf τ + 60 * (20 - fl τ 13 0) + 10 * v) (150 * lf τ + 600 * (20 - fl τ 13 0) + 100 * v) ∧ (t : Int) ≤ 20 * lf τ + 200 + 4 * v
/-- what was read took -/
def EBg (c v : Int) (τ τ' : St) (w z : Int) (k t : Nat) : Prop := (0 ≤ w ∧ 2 * w + lf τ' ≤ lf τ + 28 * (20 - fl τ 13 0) + 2 * c) ∧ (0 ≤ z ∧ 2 * z + lf τ' ≤ lf τ + 28 * (20 - fl τ 13 0) + 2 * c + 2) ∧ (k : Int) + 12 * lf τ' ≤ 12 * lf τ ∧ (t : Int) + 13 + 20 * lf τ' ≤ 20 * lf τ + 2 * v ∧ lf τ' + 1 ≤ lf τ ∧ fl τ' 16 0 + 3 * lf τ' ≤ fl τ 16 0 + 3 * lf τ
/-- a pattern was read -/
def EXk (N : Nat) (b : Bse) (dl : List (Int × Int)) (Xo : Int → Prop) (L : List Stq) (Kn : List Int) (d c v : Int) (π : Sh) (σ τ : St) (π' : Sh) (σ' τ' : St) (o : Int) (t : Nat) : Prop := ∃ seg kn n w z k, XEs b Xo π' σ' τ' (L ++ seg) (Kn ++ kn) ∧ (fl τ' 41 0 = d ∧ fl τ' 46 0 = n ∧ fl τ' 13 0 = fl τ 13 0) ∧ (fl τ 16 0 ≤ n ∧ n < fl τ' 16 0) ∧ ((0 ≤ el τ' 94 n ∧ el τ' 94 n < 100) ∧ ¬ (9 ≤ el τ' 94 n ∧ el τ' 94 n ≤ 13) ∧ el τ' 94 n ≠ 24) ∧ EXq N b τ' (fl τ 16 0) (fl τ' 16 0) (Kn ++ kn) L.length seg n o w z k ∧ (∀ y ∈ seg, y.1 = 99 → Uoe dl b y) ∧ EBg c v τ τ' w z k t ∧ ((seg.length : Int) + 2 * lf τ' ≤ 2 * lf τ ∧ (kn.length : Int) + lf τ' ≤ lf τ) ∧ RmE (bX b) (bY b) π σ π' σ' (12 * (lf τ - lf τ')) (150 * (lf τ - lf τ'))
def EXo (N : Nat) (b : Bse) (dl : List (Int × Int)) (Xo : Int → Prop) (L : List Stq) (Kn : List Int) (d c v : Int) (π : Sh) (σ τ : St) (π' : Sh) (σ' τ' : St) (o : Int) (t : Nat) : Prop := EFt (bX b) (bY b) π σ π' σ' ∧ RDr (fl τ 16 0) d τ τ' ∧ (EXf b Xo L Kn v π σ τ π' σ' τ' t ∨ EXk N b dl Xo L Kn d c v π σ τ π' σ' τ' o t)
/-- a frame of the reading machine -/
def FRx (τ : St) (d K : Int) : Prop := fl τ 41 0 = d + 1 ∧ el τ 74 d = K ∧ el τ 72 d = 0
/-- reading an argument -/
def ARH (N : Nat) (b : Bse) (dl : List (Int × Int)) (K c v dd : Int) (rA : Sh → St → Option (Sh × St × Int)) (op : Int) : Prop := ∀ (Xo : Int → Prop) (π : Sh) (σ τ : St) (L : List Stq) (Kn : List Int) (d : Int), XEs b Xo π σ τ L Kn → fl τ 13 0 = op → FRx τ d K → (0 ≤ d ∧ d ≤ 10 * op + dd) → el τ 73 d = -1 → PRE τ L Kn → ∃ π' σ' τ' o t, rA π σ = some (π', σ', o) ∧ RLp N t τ τ' ∧ EXo N b dl Xo L Kn d c v π σ τ π' σ' τ' o t
section AN
variable {N : Nat} {b : Bse} {Xo : Int → Prop} {dl : List (Int × Int)}
theorem TKr.lf {σ τ : St} (h : TKr σ τ) : 1 ≤ lf τ ∧ lf τ ≤ 2001 := by
  have := h.2.2.2.1
  have := h.1.2.2.1
  have := h.1.2.1
  rw [lf_def]
  omega
theorem TKr.sign {σ τ : St} (h : TKr σ τ) {c : Int} (hc : isSgB c) : r_isSign N τ c = some (τ, if fl σ 185 1 = c then 1 else 0) := by
  have h6 := h.2.2.2.2.2
  have hi : i32 c := by unfold isSgB isOpB at hc; exact ⟨by omega, by omega⟩
  unfold r_isSign
  rcases h6 with q | q | ⟨q1, q2, -⟩ | q | q | q | q | ⟨sg, s1, s2, s3, s4, -⟩
  · rw [q.2.1, grd_t (by decide), if_neg (by decide), if_neg (by unfold isSgB isOpB at hc; omega)]
  · rw [q.2.1, grd_t (by decide), if_neg (by decide), if_neg (by unfold isSgB isOpB at hc; omega)]
  · rw [q2, grd_t (by decide), if_neg (by decide), if_neg (by unfold isSgB isOpB at hc; omega)]
  · rw [q.2.1, grd_t (by decide), if_neg (by decide), if_neg (by unfold isSgB isOpB at hc; omega)]
  · rw [q.2.1, grd_t (by decide), if_neg (by decide), if_neg (by unfold isSgB isOpB at hc; omega)]
  · rw [q.2.1, grd_t (by decide), if_neg (by decide), if_neg (by unfold isSgB isOpB at hc; omega)]
  · rw [q.2.1, grd_t (by decide), if_neg (by decide), if_neg (by unfold isSgB isOpB at hc; omega)]
  · rw [s3, grd_t (by decide), if_pos rfl, s4, grd_t (by unfold isSgB isOpB at s1; exact ⟨by omega, by omega⟩), grd_t hi, s2]
    by_cases e : sg = c
    · rw [if_pos e, if_pos e]
    · rw [if_neg e, if_neg e]
theorem TKr.op {σ τ : St} (h : TKr σ τ) : r_isOpToken N τ = some (τ, if isOpB (fl σ 185 1) then 1 else 0) ∧ Sc_isOp N (fl σ 185 1) = some (if isOpB (fl σ 185 1) then 1 else 0) := by
  have h6 := h.2.2.2.2.2
  have hi : i32 (fl σ 185 1) := by
    rcases h6 with q | q | ⟨q1, q2, -⟩ | q | q | q | q | ⟨sg, s1, s2, -⟩
    all_goals first | exact ⟨by omega, by omega⟩ | (unfold isSgB isOpB at s1; exact ⟨by omega, by omega⟩)
  refine ⟨?_, c_isOp hi⟩
  unfold r_isOpToken
  rcases h6 with q | q | ⟨q1, q2, -⟩ | q | q | q | q | ⟨sg, s1, s2, s3, s4, -⟩
  · rw [q.2.1, grd_t (by decide), if_neg (by decide), if_neg (by unfold isOpB; omega)]
  · rw [q.2.1, grd_t (by decide), if_neg (by decide), if_neg (by unfold isOpB; omega)]
  · rw [q2, grd_t (by decide), if_neg (by decide), if_neg (by unfold isOpB; omega)]
  · rw [q.2.1, grd_t (by decide), if_neg (by decide), if_neg (by unfold isOpB; omega)]
  · rw [q.2.1, grd_t (by decide), if_neg (by decide), if_neg (by unfold isOpB; omega)]
  · rw [q.2.1, grd_t (by decide), if_neg (by decide), if_neg (by unfold isOpB; omega)]
  · rw [q.2.1, grd_t (by decide), if_neg (by decide), if_neg (by unfold isOpB; omega)]
  · rw [s3, grd_t (by decide), if_pos rfl, s4, rr_isOp (by rw [← s2]; exact hi), Option.bind_some, s2]
    by_cases e : isOpB sg
    · rw [if_pos e, grd_t (by decide), if_neg (by decide)]
    · rw [if_neg e, grd_t (by decide), if_pos rfl]
/-- kinds of tokens -/
theorem TKr.kd {σ τ : St} (h : TKr σ τ) : i32 (fl σ 185 1) ∧ (0 ≤ fl τ 3 0 ∧ fl τ 3 0 ≤ 7) ∧ (fl σ 185 1 = 1 ↔ fl τ 3 0 = 2) ∧ (fl σ 185 1 = 4 ↔ fl τ 3 0 = 5) ∧ (fl σ 185 1 = 2 ↔ fl τ 3 0 = 3) ∧ (fl σ 185 1 = 3 ↔ fl τ 3 0 = 4) ∧ (fl σ 185 1 = 10 ↔ fl τ 3 0 = 1) ∧ (fl σ 185 1 = 6 ↔ fl τ 3 0 = 0) := by
  have h6 := h.2.2.2.2.2
  rcases h6 with q | q | ⟨q1, q2, -⟩ | q | q | q | q | ⟨sg, s1, s2, s3, s4, -⟩
  all_goals first | exact ⟨⟨by omega, by omega⟩, by omega, by omega, by omega, by omega, by omega, by omega, by omega⟩ | (unfold isSgB isOpB at s1; exact ⟨⟨by omega, by omega⟩, by omega, by omega, by omega, by omega, by omega, by omega, by omega⟩)
theorem lf_rd {lo d : Int} {τ τ' : St} (hr : RDr lo d τ τ') (h4 : fl τ' 4 0 = fl τ 4 0) : lf τ' = lf τ := by unfold lf; rw [h4, hr.1 1 0 (by omega) (by decide) (by decide) (by decide) (by decide)]
/-- a fault at once -/
theorem EXo.flt {π : Sh} {σ τ σ1 τ1 : St} {L : List Stq} {Kn : List Int} {d c v f p o : Int} {t : Nat} (hc : CTX b dl) (h : XEs b Xo π σ τ L Kn) (k : ERf σ σ1) (k1 : ∀ g : Nat, g = 181 ∨ (184 ≤ g ∧ g ≤ 190) → fl σ1 g 1 = fl σ g 1) (hr : RDr (fl τ 16 0) d τ τ1) (hf : 1 ≤ f ∧ f ≤ 4) (ht : t ≤ 200) (hv : 0 ≤ v) : EXo N b dl Xo L Kn d c v π σ τ π (sf (sf σ1 182 1 f) 183 1 p) (sf (sf τ1 11 0 f) 12 0 p) o t := by
  obtain ⟨h1, h2, h3, h4, h5, h6, h7, h8, h9, h10⟩ := h
  obtain ⟨c1, c2, c3, -⟩ := hc
  have kk : ERf σ (sf (sf σ1 182 1 f) 183 1 p) := (k.tr (ERf.sf _ 182 1 f (by omega))).tr (ERf.sf _ 183 1 p (by omega))
  have hr2 : RDr (fl τ 16 0) d τ (sf (sf τ1 11 0 f) 12 0 p) := (hr.sf 11 f (by omega)).sf 12 p (by omega)
  have l := h2.lf
  refine ⟨EFt.rd kk ⟨c3.1, c3.2.2.1⟩, hr2, Or.inl ⟨⟨h1, ⟨τ, h2.cg (fun g hg => by rw [fl_sfn _ _ _ _ (by omega), fl_sfn _ _ _ _ (by omega)]; exact k1 g (by omega)) (fun j => k.2 2 j) (fun _ _ => rfl) (fun _ => rfl)⟩, ⟨?_, ?_, ?_⟩, ?_, L, Kn, h6.er (TX.rd hr2) kk, by omega, by omega⟩, ?_, by omega⟩⟩
  · rw [fl_sfn _ _ _ _ (by decide), fl_sfs, fl_sfn _ _ _ _ (by decide), fl_sfs]
  · rw [fl_sfs, fl_sfs]
  · rw [fl_sfn _ _ _ _ (by decide), fl_sfs]; exact hf
  · rw [fl_sf, if_neg (by omega), fl_sf, if_neg (by omega), k.1 144 44 (by omega) (by omega) (by omega)]; exact h5
  · refine RmE.same ⟨kk.1 1 _ (by omega) (by omega) (by omega), kk.1 1 _ (by omega) (by omega) (by omega)⟩ (ext.rf _) ?_ (by omega) (by omega)
    obtain ⟨-, -, -, q4, q5⟩ := h6.b
    have ex : fl σ 23 (bD b) = bX b ∧ fl σ 24 (bD b) = bY b := ⟨h7.d c2 23 (by omega), h7.d c2 24 (by omega)⟩
    rw [ex.1] at q4
    rw [ex.2] at q5
    exact ⟨q4, q5⟩
end AN
