/-! a function or a definition with what it wants: both -/
def WTr (τ : St) : Prop := ∀ f : Int, 0 ≤ f → f ≤ 20 → el τ 95 f = nuw (prg f ++ [4])
section NM9
variable {N : Nat} {b : Bse} {Xo : Int → Prop} {dl : List (Int × Int)} {rA rF : Sh → St → Option (Sh × St × Int)}
theorem prg_ok (f : Int) (hf : 0 ≤ f ∧ f ≤ 20) : i32 (nuw (prg f ++ [4])) ∧ Int.tdiv (nuw (prg f ++ [4])) 10 = nuw (prg f) := by
  have h : f = 0 ∨ f = 1 ∨ f = 2 ∨ f = 3 ∨ f = 4 ∨ f = 5 ∨ f = 6 ∨ f = 7 ∨ f = 8 ∨ f = 9 ∨ f = 10 ∨ f = 11 ∨ f = 12 ∨ f = 13 ∨ f = 14 ∨ f = 15 ∨ f = 16 ∨ f = 17 ∨ f = 18 ∨ f = 19 ∨ f = 20 := by omega
  rcases h with rfl | rfl | rfl | rfl | rfl | rfl | rfl | rfl | rfl | rfl | rfl | rfl | rfl | rfl | rfl | rfl | rfl | rfl | rfl | rfl | rfl <;> exact ⟨by decide, by decide⟩
theorem all_ok (k : Nat) (hk : k ≤ 4) : r_all N k = some (nuw (List.replicate k 4)) := by
  have h : k = 0 ∨ k = 1 ∨ k = 2 ∨ k = 3 ∨ k = 4 := by omega
  rcases h with rfl | rfl | rfl | rfl | rfl <;> rfl
/-- the frame of what is wanted -/
def TWo (d n W : Int) (τa τw : St) : Prop := (∀ g : Nat, g ≠ 41 → fl τw g 0 = fl τa g 0) ∧ fl τw 41 0 = d + 2 ∧ (∀ a i : Int, ¬ ((a = 72 ∨ a = 73) ∧ i = d) → ¬ (71 ≤ a ∧ a ≤ 74 ∧ i = d + 1) → el τw a i = el τa a i) ∧ (∀ (f : Nat) (i : Int), i ≠ 0 → fl τw f i = fl τa f i) ∧ (el τw 74 (d + 1) = 6 ∧ el τw 72 (d + 1) = 0 ∧ el τw 73 (d + 1) = n) ∧ (el τw 72 d = 1 ∧ el τw 73 d = n) ∧ el τw 71 (d + 1) = W
theorem tw_mk {τa τ1 : St} {d n W : Int} (h41 : fl τa 41 0 = d + 1) (h1 : ∀ (f : Nat) (i : Int), fl τ1 f i = fl τa f i) (h2 : ∀ a i : Int, ¬ ((a = 72 ∨ a = 73) ∧ i = d) → el τ1 a i = el τa a i) (h3 : el τ1 72 d = 1 ∧ el τ1 73 d = n) : TWo d n W τa (nwF τ1 6 n W) := by
  have g41 : fl τ1 41 0 = d + 1 := by rw [h1]; exact h41
  have nv := nwF_v τ1 6 n W
  rw [g41] at nv
  refine ⟨fun g hg => by rw [nwF_fl _ _ _ _ _ _ hg, h1], by rw [nwF_41, g41]; omega, fun a i z1 z2 => by rw [nwF_el _ _ _ _ _ _ (by omega), h2 a i z1], fun f i hi => ?_, ⟨nv.1, nv.2.2.1, nv.2.1⟩, ⟨by rw [nwF_el _ _ _ _ _ _ (by omega)]; exact h3.1, by rw [nwF_el _ _ _ _ _ _ (by omega)]; exact h3.2⟩, nv.2.2.2⟩
  unfold nwF
  rw [fl_sf, if_neg (by omega), fl_se, fl_se, fl_se, fl_se, h1]
set_option maxHeartbeats 2000000 in
/-- a function -/
theorem nm_fun {π0 : Sh} {σ0 σ1 τ0 : St} {L0 : List Stq} {Kn0 : List Int} {f K Kd d op : Int} {tail : List Int} (hN : 30000001 ≤ N) (hc : CTX b dl) (h0 : XEs b Xo π0 σ0 τ0 L0 Kn0) (hB0 : PRE τ0 L0 Kn0) (hop : fl τ0 13 0 = op) (hd : 0 ≤ d ∧ d + 2 ≤ 10 * op + 11) (hK : el τ0 74 d = Kd ∧ fl τ0 41 0 = d + 1 ∧ 1 ≤ Kd ∧ Kd ≤ 12) (e1 : ERf σ0 σ1) (e2 : ∀ g : Nat, fl σ1 g 1 = fl σ0 g 1) (hk : fl σ0 185 1 = 1) (hKK : 0 ≤ K ∧ K < 100) (hf : 0 ≤ f ∧ f ≤ 20) (h145 : fl σ1 145 44 = f) (hr : ∀ x ∈ tail, 1 ≤ x ∧ x ≤ 4) (hl : tail.length ≤ 1) (hA : ARH N b dl 5 1 0 11 rA op) (hF : FUH N b dl rF op) (hT : ∀ τa, r_advance N (se (nwN τ0 K (fl τ0 4 0)) 92 (fl τ0 16 0) f) = some τa → fl τa 41 0 = d + 1 → (∀ a i : Int, a = 81 ∨ a = 95 → el τa a i = el τ0 a i) → ∃ τw, rdK N Kd τ0 d = some τw ∧ TWo d (fl τ0 16 0) (nuw (prg f ++ tail)) τa τw) : ∃ π' σ' τp' t, Rd_named N rA rF π0 σ1 2 = some (π', σ', (nn π0 : Int)) ∧ RLp N t τ0 τp' ∧ (WFt b Xo d (fl τ0 16 0) (nn π0) L0 Kn0 π0 σ0 τ0 π' σ' τp' t ∨ WEn N b dl Xo f f K Kd (-1) d (fl τ0 16 0) (nn π0) (fl τ0 4 0) op L0 Kn0 π0 σ0 τ0 π' σ' τp' t tail) := by
  have op20 := h0.2.2.2.1
  have f0 := h0.2.2.1
  obtain ⟨π1, σ2, σ3, τa, c1, c2, c3, c4, c5, c6, c7, c8, c9, c10, c11⟩ := ws_start (fC := f) (fR := f) (K := K) (Kd := Kd) (us := -1) (d := d) (W := 0) hN hc h0 hB0 hop ⟨hd.1, by omega⟩ ⟨hK.1, hK.2.1⟩ e1 e2 hk hKK
  rw [sf_id c4] at c5
  obtain ⟨τw, t1, t2, t3, t4, t5, t6, t7, t8⟩ := hT τa c8 c9 c10
  have W := c11 τw t2 t3 t4 t5 t6 t7
  have trn : TRN N τw τw d (fl τ0 16 0) := TRN.same ⟨hd.1, by omega⟩ t3 W.1.2.2.1.2 t6.1 t6.2.1 t6.2.2
  obtain ⟨m, hm⟩ : ∃ m, N = m + 5 := ⟨N - 5, by omega⟩
  obtain ⟨π', σ', τp', t, q1, q2, q3⟩ := wants_all (rA := rA) (rF := rF) (m := m) hN hc h0 hB0 hd hop hf W trn t8 hr hl hA hF
  refine ⟨π', σ', τp', 1 + t, ?_, (RLp.one hK.2.1 ⟨hd.1, by omega⟩ f0.2 ⟨hK.1, hK.2.2⟩ t1).tr q2, q3⟩
  have n44 : (44 : Int) < nn π0 := by have := h0.1.1; omega
  have z145 : fl (zO σ1 (nn π0) dfl) 145 44 = f := by rw [fl_zO, if_neg (by omega)]; exact h145
  have z186 : fl (zO σ1 (nn π0) dfl) 186 1 = fl σ0 186 1 := by rw [fl_zO, if_neg (by omega)]; exact e2 186
  have p120 : fl σ3 120 (nn π0) = f := W.2.1.1.2.1
  rw [Rd_named, Rd_named_3, grd_t (by decide), if_pos rfl, Rd_named_18, z145, z186, c1, Option.bind_some, grd_t c2]
  simp only
  rw [Rd_named_28, grd_t (by decide), if_pos rfl, c5, Option.bind_some, Rd_wants, grd_t c3]
  simp only [bnd]
  rw [p120]
  have q1' : Rd_wants_9 N rA rF N π1 σ3 (nn π0) (f * 4) 0 = some (π', σ') := by rw [← q1, ← hm]
  rw [q1', Option.bind_some]
  rfl
set_option maxHeartbeats 2000000 in
/-- a definition -/
theorem nm_def {π0 : Sh} {σ0 σ1 τ0 : St} {L0 : List Stq} {Kn0 : List Int} {K Kd d op : Int} {tail : List Int} {e : Int × Int} {k : Nat} (hN : 30000001 ≤ N) (hc : CTX b dl) (h0 : XEs b Xo π0 σ0 τ0 L0 Kn0) (hB0 : PRE τ0 L0 Kn0) (hop : fl τ0 13 0 = op) (hd : 0 ≤ d ∧ d + 2 ≤ 10 * op + 11) (hK : el τ0 74 d = Kd ∧ fl τ0 41 0 = d + 1 ∧ 1 ≤ Kd ∧ Kd ≤ 12) (e1 : ERf σ0 σ1) (e2 : ∀ g : Nat, fl σ1 g 1 = fl σ0 g 1) (hk : fl σ0 185 1 = 1) (hKK : 0 ≤ K ∧ K < 100) (hm : e ∈ dl) (hkk : el b.2.2.1 81 e.2 = k + 1 ∧ k ≤ 3) (h146 : fl σ1 146 44 = e.1) (hr : ∀ x ∈ tail, 1 ≤ x ∧ x ≤ 4) (hl : tail.length ≤ 1) (hA : ARH N b dl 5 1 0 11 rA op) (hT : ∀ τa, r_advance N (se (nwN τ0 K (fl τ0 4 0)) 92 (fl τ0 16 0) e.2) = some τa → fl τa 41 0 = d + 1 → (∀ a i : Int, a = 81 ∨ a = 95 → el τa a i = el τ0 a i) → ∃ τw, rdK N Kd τ0 d = some τw ∧ TWo d (fl τ0 16 0) (nuw (List.replicate k 4 ++ tail)) τa τw) : ∃ π' σ' τp' t, Rd_named N rA rF π0 σ1 4 = some (π', σ', (nn π0 : Int)) ∧ RLp N t τ0 τp' ∧ (WFt b Xo d (fl τ0 16 0) (nn π0) L0 Kn0 π0 σ0 τ0 π' σ' τp' t ∨ ∃ τi l' kn', TRN N τp' τi d (fl τ0 16 0) ∧ el τi 71 (d + 1) = nuw tail ∧ WST N b dl Xo 22 e.2 K Kd e.1 d (fl τ0 16 0) (nn π0) (fl τ0 4 0) op (lf τ0) L0 Kn0 π0 σ0 τ0 π' σ' τi 0 0 0 0 l' kn' t ∧ (l'.length : Int) = k) := by
  have op20 := h0.2.2.2.1
  have f0 := h0.2.2.1
  have cx := h0.cx hc
  have de := cx.2.2.2.2.2.2.2.2.1 e hm
  have de2 := cx.2.2.2.2.2.2.2.2.2 e hm
  obtain ⟨π1, σ2, σ3, τa, c1, c2, c3, c4, c5, c6, c7, c8, c9, c10, c11⟩ := ws_start (fC := 22) (fR := e.2) (K := K) (Kd := Kd) (us := e.1) (d := d) (W := 0) hN hc h0 hB0 hop ⟨hd.1, by omega⟩ ⟨hK.1, hK.2.1⟩ e1 e2 hk hKK
  obtain ⟨τw, t1, t2, t3, t4, t5, t6, t7, t8⟩ := hT τa c8 c9 c10
  have W := c11 τw t2 t3 t4 t5 t6 t7
  have trn : TRN N τw τw d (fl τ0 16 0) := TRN.same ⟨hd.1, by omega⟩ t3 W.1.2.2.1.2 t6.1 t6.2.1 t6.2.2
  obtain ⟨m, hm'⟩ : ∃ m, N = m + k + 2 := ⟨N - k - 2, by omega⟩
  obtain ⟨π', σ', τp', t, q1, q2, q3⟩ := named_args (rA := rA) (rF := rF) (mm := k) hN hc h0 hB0 hd hop hr hl (by omega) hA k π1 σ3 τw τw [] [] 1 m W trn t8 (by simp)
  refine ⟨π', σ', τp', 1 + t, ?_, (RLp.one hK.2.1 ⟨hd.1, by omega⟩ f0.2 ⟨hK.1, hK.2.2⟩ t1).tr q2, q3⟩
  have n44 : (44 : Int) < nn π0 := by have := h0.1.1; omega
  have z186 : fl (zO σ1 (nn π0) dfl) 186 1 = fl σ0 186 1 := by rw [fl_zO, if_neg (by omega)]; exact e2 186
  have s146 : fl σ2 146 44 = e.1 := by rw [c6 146 44 n44]; exact h146
  have s22 : fl σ2 22 e.1 = k + 1 := by
    rw [c6 22 e.1 de.1.2.1, e1.1 22 e.1 (by omega) (by omega) (by omega), de2.1, de2.2.1]; exact hkk.1
  have o1 : ob π1 e.1 1 := by
    have w := W.2.2.2.1.1
    exact de.1.ext w
  rw [Rd_named, Rd_named_3, grd_t (by decide), if_neg (by decide), Rd_named_18, z186, c1, Option.bind_some, grd_t c2]
  simp only
  rw [Rd_named_28, grd_t (by decide), if_neg (by decide), grd_t c3, s146, grd_t o1]
  simp only [bnd]
  rw [s22, c5, Option.bind_some]
  have ek : (k : Int) + 1 - 1 = k := by omega
  have q1' : Rd_named_76 N rA rF N π1 σ3 (nn π0) k 0 = some (π', σ', (nn π0 : Int)) := by rw [← q1, ← hm']; rfl
  rw [ek]
  exact q1'
end NM9
