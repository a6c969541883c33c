/-! FUNs in brackets: the loop -/
section PL9
variable {N : Nat} {b : Bse} {Xo : Int → Prop} {dl : List (Int × Int)} {rA rF : Sh → St → Option (Sh × St × Int)}
/-- any piece -/
theorem piece_all {op d : Int} {π : Sh} {σ τ : St} {L : List Stq} {Kn : List Int} (hN : 30000001 ≤ N) (hc : CTX b dl) (hW : WTr b.2.2.1) (hA : ARH N b dl 5 1 0 11 rA op) (hF : FUH N b dl rF op) (h : XEs b Xo π σ τ L Kn) (hop : fl τ 13 0 = op) (hK : FRx τ d 9) (hd : 0 ≤ d ∧ d ≤ 10 * op + 9) (hB : PRE τ L Kn) : ∃ π' σ' τ' pc t, Rd_piece N rA rF π σ = some (π', σ', pc) ∧ RLp N t τ τ' ∧ PIo N b dl Xo L Kn d π σ τ π' σ' τ' pc t := by
  have tk := h.2.1
  have f0 := h.2.2.1
  have op20 := h.2.2.2.1
  by_cases c1 : fl σ 185 1 = 1
  · exact pc_name hN hc hW hA hF h hop hK hd hB c1
  by_cases c2 : fl σ 185 1 = 40
  · exact pc_group hN hc hF h hop hK hd hB c2
  by_cases c3 : isOpB (fl σ 185 1)
  · exact pc_op hN hc hA h hop hK hd hB c3
  have kd := tk.kd
  refine ⟨π, _, _, -1, 1, ?_, RLp.one hK.1 ⟨hd.1, by omega⟩ f0.2 ⟨hK.2.1, by omega, by omega⟩ ?_, PIo.flt (N := N) (p := fl τ 4 0) (f := 1) (o := -1) (t := 1) hc h (ERf.rf σ) (fun g _ => rfl) (by omega) (by omega) (by decide)⟩
  · rw [Rd_piece, grd_t kd.1, if_neg c1, if_neg c2, c_isOp kd.1, Option.bind_some, if_neg c3, grd_t (by decide), if_pos rfl, c_fail (by rw [f0.1]; decide), Option.bind_some, flS, if_pos f0.1, tk.2.1]
  · have t2 : ¬ fl τ 3 0 = 2 := fun e => c1 (kd.2.2.1.2 e)
    have t7 := kd.2.1
    show r_readPiece N τ d = _
    rw [r_readPiece, grd_t (by exact ⟨hd.1, by omega⟩), hK.2.2, grd_t (by decide), if_neg (by decide), if_neg (by decide), tk.sign (c := 40) (by unfold isSgB; omega), Option.bind_some]
    simp only
    rw [if_neg c2, grd_t (by decide), if_pos rfl, tk.op.1, Option.bind_some]
    simp only
    rw [if_neg c3, grd_t (by decide), if_pos rfl, grd_t (by exact ⟨by omega, by omega⟩), if_neg t2, r_fail0 f0.2, Option.bind_some]
/-- a FUN in brackets, before its next piece -/
def PLA (N : Nat) (b : Bse) (dl : List (Int × Int)) (Xo : Int → Prop) (op d n : Int) (L0 : List Stq) (Kn0 : List Int) (π0 : Sh) (σ0 τ0 : St) (π : Sh) (σ τ : St) (l : List Ech) (kn : List Int) (fc cl m' w z A B : Int) (m k : Nat) (T : Nat) : Prop := XEs b Xo π σ τ (L0 ++ egs l) (Kn0 ++ kn) ∧ EFt (bX b) (bY b) π0 σ0 π σ ∧ RDr n d τ0 τ ∧ (fl τ 41 0 = d + 2 ∧ el τ 74 d = 8 ∧ el τ 72 d = 1 ∧ el τ 73 d = n) ∧ (el τ 74 (d + 1) = 9 ∧ el τ 72 (d + 1) = 0 ∧ el τ 73 (d + 1) = -1) ∧ fl τ 13 0 = op + 1 ∧ (n = fl τ0 16 0 ∧ n < fl τ 16 0) ∧ el τ 94 n = 11 ∧ ECs N b τ (Kn0 ++ kn) L0.length (n + 1) (fl τ 16 0) l ∧ ECn τ (n + 1) (fl τ 16 0) n l ∧ (∀ y ∈ egs l, y.1 = 99 → Uoe dl b y) ∧ (∀ y ∈ l, eO y = none) ∧ (∀ q : Nat, 21 ≤ op + q → CHa N (Pc_applyC N q) (bD b) (bP b) (bV b) (n + 1) (fl τ 16 0) m k w z A B (Uoe dl b) (eaz l) ((l.map eC).reverse.map (fun c => (11, c))) cl (nn π0) (nn π) π σ τ fc) ∧ (∀ x, l.getLast? = some x → eC x = cl) ∧ (fc = -1 ↔ l = []) ∧ EBd ((lf τ0 - lf τ + 28 * (20 - op)) / 2) ((lf τ0 - lf τ + 28 * (20 - op)) / 2) l ∧ ((0 ≤ w ∧ 2 * w + lf τ ≤ lf τ0 + 28 * (20 - op)) ∧ (0 ≤ z ∧ 2 * z + lf τ ≤ lf τ0 + 28 * (20 - op))) ∧ ((ekk l : Int) + k + 12 * lf τ + 10 * l.length + 10 ≤ 12 * lf τ0 ∧ ((egs l).length : Int) + m + 2 * lf τ + 2 ≤ 2 * lf τ0 ∧ (kn.length : Int) + lf τ + 1 ≤ lf τ0 ∧ fl τ 16 0 + 3 * lf τ + 2 ≤ fl τ0 16 0 + 3 * lf τ0 ∧ (T : Int) + 18 + 20 * lf τ ≤ 20 * lf τ0 ∧ 2 * (l.length : Int) + lf τ + 1 ≤ lf τ0) ∧ (0 ≤ A ∧ 0 ≤ B) ∧ (nn π : Int) + A + 12 ≤ nn π0 + 12 * (lf τ0 - lf τ) ∧ (sw π : Int) + 4 * cpc π0 σ0 (bX b) + 4 * cpc π0 σ0 (bY b) + B + 150 ≤ sw π0 + 4 * cpc π σ (bX b) + 4 * cpc π σ (bY b) + 150 * (lf τ0 - lf τ)
/-- the class's loop -/
theorem fl_go {n : Nat} {π π' : Sh} {σ σ1 σ' : St} {x1 i pc : Int} (hi : 0 ≤ i ∧ i < 2000) (h0 : fl σ 182 1 = 0) (h1 : Sc_advance N π σ = some σ1) (h2 : Rd_piece N rA rF π σ1 = some (π', σ', pc)) (ho : pc < 0 ∨ ob π' pc 6) (h3 : i32 (fl σ' 185 1)) (hp : ¬ pc = 1) : Rd_fun_70 N rA rF (n + 1) π σ x1 1 i = Rd_fun_70 N rA rF n π' (if pc < 0 then σ' else sf σ' 127 pc x1) (if pc < 0 then x1 else pc) (if fl σ' 185 1 = 46 then 1 else 0) (i + 1) := by
  rw [Rd_fun_70, grd_t (by exact ⟨by omega, by omega⟩), if_pos hi.2, grd_t (by decide), if_neg (by decide), h0, grd_t (by decide), if_pos rfl, h1, Option.bind_some, h2, Option.bind_some]
  simp only
  rw [Rd_fun_102]
  by_cases c : pc < 0
  · rw [if_pos c, if_pos c, if_pos c, Rd_fun_118, grd_t h3]
    by_cases c2 : fl σ' 185 1 = 46
    · rw [if_pos c2, if_pos c2]; rfl
    · rw [if_neg c2, if_neg c2]; rfl
  · have o : ob π' pc 6 := by rcases ho with q | q; exact absurd q c; exact q
    have e : fl (sf σ' 127 pc x1) 185 1 = fl σ' 185 1 := fl_sfn _ _ _ _ (by decide)
    rw [if_neg c, if_neg c, if_neg c, grd_t o, Rd_fun_118, e, grd_t h3]
    by_cases c2 : fl σ' 185 1 = 46
    · rw [if_pos c2, if_pos c2]; rfl
    · rw [if_neg c2, if_neg c2]; rfl
theorem fl_stop {n : Nat} {π : Sh} {σ σ' : St} {x1 x2 i : Int} (hi : 0 ≤ i ∧ i < 3000) (h2 : x2 = 0 ∨ x2 = 1) (hf : i32 (fl σ 182 1)) (h : x2 = 0 ∨ fl σ 182 1 ≠ 0) (he : Rd_expect N π σ 41 = some σ') : Rd_fun_70 N rA rF (n + 1) π σ x1 x2 i = some (π, sf σ' 184 1 (fl σ' 184 1 - 1), x1) := by
  have fin : Rd_fun_142 N rA rF π σ x1 = some (π, sf σ' 184 1 (fl σ' 184 1 - 1), x1) := by
    rw [Rd_fun_142, he, Option.bind_some]
  rw [Rd_fun_70, grd_t (by exact ⟨by omega, by omega⟩)]
  by_cases c : i < 2000
  · rw [if_pos c, grd_t (by exact ⟨by omega, by omega⟩)]
    by_cases c2 : x2 = 0
    · rw [if_pos c2, fin]
    · rw [if_neg c2, grd_t hf, if_neg (by
        rcases h with q | q
        · exact absurd q c2
        · exact q), fin]
  · rw [if_neg c, fin]
end PL9
