/-! rows of the reference: frames, steps, what they leave alone -/
/-- times of a row as the reference has them -/
def ab (o : Int) (l : List Evt) : List Evt := l.map (fun e => (e.1 + o, e.1 + e.2.1 + o, e.2.2))
theorem ab_len (o : Int) (l : List Evt) : (ab o l).length = l.length := List.length_map _
theorem ab_app (o : Int) (l m : List Evt) : ab o (l ++ m) = ab o l ++ ab o m := List.map_append
theorem ab_mv {o k b o' b' : Int} (l : List Evt) (h : o * k + b = o' + b') : mvA k b (ab o l) = ab o' (mv k b' l) := by
  unfold mvA ab mv
  rw [List.map_map, List.map_map]
  refine List.map_congr_left (fun e _ => ?_)
  show ((e.1 + o) * k + b, (e.1 + e.2.1 + o) * k + b, e.2.2) = (e.1 * k + b' + o', e.1 * k + b' + e.2.1 * k + o', e.2.2)
  rw [Int.add_mul, Int.add_mul (e.1 + e.2.1), Int.add_mul e.1]
  rw [show e.1 * k + o * k + b = e.1 * k + b' + o' by omega, show e.1 * k + e.2.1 * k + o * k + b = e.1 * k + b' + e.2.1 * k + o' by omega]
theorem ab_flt {o lo hi lo' hi' : Int} (h1 : lo' = lo + o) (h2 : hi' = hi + o) : ∀ l : List Evt, (ab o l).filter (inW lo' hi') = ab o (l.filter (inW lo hi))
  | [] => rfl
  | e :: l => by
    have ih := ab_flt h1 h2 l
    unfold ab at ih ⊢
    rw [List.map_cons, List.filter_cons, List.filter_cons, ih]
    have : inW lo' hi' (e.1 + o, e.1 + e.2.1 + o, e.2.2) = inW lo hi e := by
      unfold inW
      rw [decide_eq_decide]
      show lo' ≤ e.1 + o ∧ e.1 + o < hi' ↔ lo ≤ e.1 ∧ e.1 < hi
      omega
    rw [this]
    split
    · rw [List.map_cons]
    · rfl
theorem ab_sort (o : Int) (l : List Evt) : sortE (ab o l) = ab o (sortE l) := by
  unfold sortE isoL ab
  rw [isoA_map ltE ltE (fun e : Evt => ((e.1 + o, e.1 + e.2.1 + o, e.2.2) : Evt)) (fun a b => by
    unfold ltE
    rw [decide_eq_decide]
    show a.1 < b.1 ↔ a.1 + o < b.1 + o
    omega)]
  rfl
/-- tables as they were -/
def TB (τ0 τ : St) : Prop := (∀ a j, 53 ≤ a → el τ a j = el τ0 a j) ∧ fl τ 95 0 = fl τ0 95 0
/-- what the working out of a row leaves alone: events below e, frames below k -/
def RQ (e k : Int) (τ τ' : St) : Prop := (∀ f i, f ≠ 84 → f ≠ 96 → fl τ' f i = fl τ f i) ∧ (∀ a j, a < 29 ∨ 52 < a → el τ' a j = el τ a j) ∧ (∀ a j, 33 ≤ a → a ≤ 42 → j < k → el τ' a j = el τ a j) ∧ ∀ a j, 43 ≤ a → a ≤ 52 → j < e → el τ' a j = el τ a j
theorem RQ.rf (e k : Int) (τ : St) : RQ e k τ τ := ⟨fun _ _ _ _ => rfl, fun _ _ _ => rfl, fun _ _ _ _ _ => rfl, fun _ _ _ _ _ => rfl⟩
theorem RQ.tr {e k e' k' : Int} {τ τ1 τ2 : St} (h : RQ e k τ τ1) (g : RQ e' k' τ1 τ2) (he : e ≤ e') (hk : k ≤ k') : RQ e k τ τ2 :=
  ⟨fun f i a b => (g.1 f i a b).trans (h.1 f i a b), fun a j x => (g.2.1 a j x).trans (h.2.1 a j x), fun a j x y z => (g.2.2.1 a j x y (by omega)).trans (h.2.2.1 a j x y z), fun a j x y z => (g.2.2.2 a j x y (by omega)).trans (h.2.2.2 a j x y z)⟩
theorem RQ.tb {e k : Int} {τ0 τ τ' : St} (h : RQ e k τ τ') (t : TB τ0 τ) : TB τ0 τ' := ⟨fun a j ha => (h.2.1 a j (by omega)).trans (t.1 a j ha), (h.1 95 0 (by decide) (by decide)).trans t.2⟩
theorem RP.rq {m k : Int} {τ τ' : St} (h : RP m τ τ') : RQ m k τ τ' := ⟨fun f i a _ => h.1 f i a, fun a j ha => h.2.1 a j (by omega), fun a j _ h2 _ => h.2.1 a j (by omega), fun a j _ _ hj => h.2.2 a j hj⟩
theorem RQ.at {e k : Int} {τ τ' : St} (h : RQ e k τ τ') {l : List Evt} {a : Int} (g : At (RE τ) a l) (hm : a + l.length ≤ e) : At (RE τ') a l := g.mono (fun i x a1 a2 _ h1 => by
  unfold RE at h1 ⊢
  rw [h.2.2.2 52 i (by decide) (by decide) (by omega), h.2.2.2 51 i (by decide) (by decide) (by omega), h.2.2.2 50 i (by decide) (by decide) (by omega), h.2.2.2 49 i (by decide) (by decide) (by omega), h.2.2.2 48 i (by decide) (by decide) (by omega), h.2.2.2 47 i (by decide) (by decide) (by omega)]
  exact h1)
/-- a change in frame k alone -/
theorem RQ.se (e k : Int) (τ : St) {a : Int} (ha : 33 ≤ a ∧ a ≤ 42) (v : Int) : RQ e k τ (se τ a k v) := ⟨fun _ _ _ _ => rfl, fun b j hb => el_sen _ _ _ _ (by omega), fun b j _ _ hj => by rw [el_se, if_neg (by omega)], fun b j hb _ _ => el_sen _ _ _ _ (by omega)⟩
/-- κ rounds of the loop -/
def Rnd (N κ : Nat) (τ τ' : St) : Prop := ∀ n, r_rowOf_16 N (n + κ) τ = r_rowOf_16 N n τ'
theorem Rnd.rf (N : Nat) (τ : St) : Rnd N 0 τ τ := fun _ => rfl
theorem Rnd.tr {N a b : Nat} {τ τ1 τ2 : St} (h : Rnd N a τ τ1) (g : Rnd N b τ1 τ2) : Rnd N (a + b) τ τ2 := fun n => by
  rw [show n + (a + b) = (n + b) + a by omega, h (n + b), g n]
theorem Rnd.step {N : Nat} {τ τ' : St} {k : Int} (h : fl τ 96 0 = k + 1) (h0 : 0 ≤ k) (h1 : k < 70) (hs : r_step N τ k = some τ') : Rnd N 1 τ τ' := fun n => by
  rw [r_rowOf_16, grd_t (by rw [h]; exact ⟨by omega, by omega⟩), if_pos (by omega), h, show k + 1 - 1 = k by omega, hs, Option.bind_some]
/-- rounds of a row of depth d -/
def sbd : Nat → Nat
  | 0 => 0
  | d + 1 => 2 + 1000000000 * (sbd d + 2)
/-- a fresh frame -/
def FRM (τ : St) (k p c : Int) : Prop := fl τ 96 0 = k + 1 ∧ el τ 42 k = p ∧ el τ 41 k = c ∧ el τ 40 k = 0 ∧ el τ 39 k = fl τ 84 0 ∧ el τ 38 k = fl τ 84 0 ∧ el τ 37 k = 0 ∧ el τ 36 k = 0 ∧ el τ 35 k = 0 ∧ el τ 34 k = 0 ∧ el τ 33 k = 0
/-- the reference works out rows: what is shown for each depth -/
def HR (N : Nat) (τ0 : St) (d : Nat) : Prop := ∀ (τ : St) (k p c : Int), TB τ0 τ → TN τ0 d p → CB τ0 d p c → FRM τ k p c → 0 ≤ k → k + d ≤ 69 → 0 ≤ fl τ 84 0 → fl τ 84 0 + cw τ0 p + phi (wk τ0 p) ≤ 6000 → ∃ κ τ', κ ≤ sbd d ∧ Rnd N κ τ τ' ∧ RQ (fl τ 84 0) k τ τ' ∧ fl τ' 96 0 = k ∧ fl τ' 84 0 = fl τ 84 0 + (rowL τ0 d p c).length ∧ At (RE τ') (fl τ 84 0) (ab (c * gr τ0 p) (rowL τ0 d p c))
section RF
variable {N : Nat} {τ0 : St} {d : Nat} {k p c e : Int}
/-- a node that is being worked out: the list so far -/
def NR (τ0 τs : St) (k p c e : Int) (A : List Evt) (τ : St) : Prop := TB τ0 τ ∧ fl τ 96 0 = k + 1 ∧ el τ 42 k = p ∧ el τ 41 k = c ∧ el τ 39 k = e ∧ RQ e k τs τ ∧ fl τ 84 0 = e + A.length ∧ At (RE τ) e A
/-- all that is known of the node -/
def PR2 (N : Nat) (τ0 : St) (d : Nat) (k p c e : Int) : Prop := HR N τ0 d ∧ TN τ0 (d + 1) p ∧ CB τ0 (d + 1) p c ∧ 0 ≤ k ∧ k + (d + 1) ≤ 69 ∧ 0 ≤ e ∧ e + cw τ0 p + phi (wk τ0 p) ≤ 6000 ∧ 300000 ≤ N
theorem r_call' {τ : St} {q c' : Int} (h0 : 0 ≤ fl τ 96 0) (h1 : fl τ 96 0 < 70) : ∃ τ', r_call N τ q c' = some τ' ∧ FRM τ' (fl τ 96 0) q c' ∧ fl τ' 84 0 = fl τ 84 0 ∧ (∀ f i, f ≠ 96 → fl τ' f i = fl τ f i) ∧ ∀ a j, a < 33 ∨ 42 < a ∨ j ≠ fl τ 96 0 → el τ' a j = el τ a j := by
  refine ⟨_, by rw [r_call, grd_t (by exact ⟨by omega, by omega⟩)], ?_, ?_, ?_, ?_⟩
  · unfold FRM
    simp only [el_se, el_sf]
    refine ⟨(show fl (sf τ 96 0 (fl τ 96 0 + 1)) 96 0 = fl τ 96 0 + 1 from fl_sfs _ _ _ _), ?_, ?_, ?_, ?_, ?_, ?_, ?_, ?_, ?_, ?_⟩ <;> simp <;> rfl
  · rfl
  · intro f i hf
    exact fl_sfn _ _ _ _ hf
  · intro a j ha
    simp only [el_se, el_sf]
    rw [if_neg (by omega), if_neg (by omega), if_neg (by omega), if_neg (by omega), if_neg (by omega), if_neg (by omega), if_neg (by omega), if_neg (by omega), if_neg (by omega), if_neg (by omega)]
/-- calling a kid, and its row -/
theorem NR.kid {τs τ : St} {A : List Evt} (h : PR2 N τ0 d k p c e) (hA : NR τ0 τs k p c e A τ) {i c' : Int} (i0 : 0 ≤ i) (i1 : i < el τ0 64 p) (hc : CB τ0 d (kd τ0 p i) c') (hl : e + A.length + cw τ0 (kd τ0 p i) + phi (wk τ0 (kd τ0 p i)) ≤ 6000) : ∃ τ1 κ τ2, r_callKid N τ k i c' = some τ1 ∧ κ ≤ sbd d ∧ Rnd N κ τ1 τ2 ∧ NR τ0 τs k p c e (A ++ ab (c' * gr τ0 (kd τ0 p i)) (rowL τ0 d (kd τ0 p i) c')) τ2 ∧ el τ2 38 k = e + A.length ∧ el τ2 40 k = 1 ∧ el τ2 37 k = i ∧ el τ2 36 k = el τ 36 k ∧ el τ2 35 k = el τ 35 k ∧ el τ2 34 k = el τ 34 k ∧ el τ2 33 k = el τ 33 k := by
  obtain ⟨hHR, hT, hC, k0, k1, e0, e1, hN⟩ := h
  obtain ⟨a1, a2, a3, a4, a5, a6, a7, a8⟩ := hA
  have bT := hT.2.2.1
  have pp := hT.pos
  have f65 : el τ 65 p = el τ0 65 p := a1.1 65 p (by decide)
  have f58 : el τ 58 (el τ0 65 p + i) = kd τ0 p i := a1.1 58 _ (by decide)
  obtain ⟨τ1, p1, p2, p3, p4, p5⟩ := r_call' (N := N) (τ := se (se (se τ 38 k (fl τ 84 0)) 40 k 1) 37 k i) (q := kd τ0 p i) (c' := c') (by show 0 ≤ fl τ 96 0; omega) (by show fl τ 96 0 < 70; omega)
  have f96 : fl (se (se (se τ 38 k (fl τ 84 0)) 40 k 1) 37 k i) 96 0 = k + 1 := a2
  have f84 : fl τ1 84 0 = e + A.length := p3.trans a7
  rw [f96] at p2 p5
  have q1 : RQ (e + A.length) (k + 1) (se (se (se τ 38 k (fl τ 84 0)) 40 k 1) 37 k i) τ1 := ⟨fun f j _ hf => p4 f j hf, fun a j ha => p5 a j (by omega), fun a j _ _ hj => p5 a j (by omega), fun a j _ _ hj => p5 a j (by omega)⟩
  have q0 : RQ e k τ (se (se (se τ 38 k (fl τ 84 0)) 40 k 1) 37 k i) := ((RQ.se e k τ (by decide) _).tr (RQ.se e k _ (by decide) _) (Int.le_refl _) (Int.le_refl _)).tr (RQ.se e k _ (by decide) _) (Int.le_refl _) (Int.le_refl _)
  have t1 : TB τ0 τ1 := q1.tb (q0.tb a1)
  obtain ⟨κ, τ2, r1, r2, r3, r4, r5, r6⟩ := hHR τ1 (k + 1) (kd τ0 p i) c' t1 (hT.2.2.2.1 i i0 i1) hc p2 (by omega) (by omega) (by omega) (by omega)
  rw [f84] at r3 r5 r6
  have fr : ∀ a, 33 ≤ a → a ≤ 42 → el τ2 a k = el (se (se (se τ 38 k (fl τ 84 0)) 40 k 1) 37 k i) a k := fun a h1 h2 => by
    rw [r3.2.2.1 a k h1 h2 (by omega), p5 a k (by omega)]
  refine ⟨τ1, κ, τ2, ?_, r1, r2, ⟨r3.tb t1, r4, ?_, ?_, ?_, ?_, ?_, ?_⟩, ?_, ?_, ?_, ?_, ?_, ?_, ?_⟩
  · rw [r_callKid, grd_t (by exact ⟨by omega, by omega⟩), a3, grd_t (by exact ⟨by omega, by omega⟩), f65, grd_t (by exact ⟨by omega, by omega⟩), bnd, f58, p1, Option.bind_some]
  · rw [fr 42 (by decide) (by decide)]; simp only [el_se]; exact a3
  · rw [fr 41 (by decide) (by decide)]; simp only [el_se]; exact a4
  · rw [fr 39 (by decide) (by decide)]; simp only [el_se]; exact a5
  · exact (a6.tr q0 (Int.le_refl _) (Int.le_refl _)).tr (q1.tr r3 (Int.le_refl _) (Int.le_refl _)) (by omega) (by omega)
  · rw [r5, List.length_append, ab_len]; omega
  · refine At.app ?_ r6
    have : At (RE (se (se (se τ 38 k (fl τ 84 0)) 40 k 1) 37 k i)) e A := a8.mono (fun j x _ _ _ hx => by
      unfold RE at hx ⊢
      simp only [el_se]
      exact hx)
    exact (q1.tr r3 (Int.le_refl _) (Int.le_refl _)).at this (Int.le_refl _)
  · rw [fr 38 (by decide) (by decide)]; simp only [el_se]; show fl τ 84 0 = _; exact a7
  · rw [fr 40 (by decide) (by decide)]; simp only [el_se]; rfl
  · rw [fr 37 (by decide) (by decide)]; simp only [el_se]; rfl
  · rw [fr 36 (by decide) (by decide)]; simp only [el_se]; rfl
  · rw [fr 35 (by decide) (by decide)]; simp only [el_se]; rfl
  · rw [fr 34 (by decide) (by decide)]; simp only [el_se]; rfl
  · rw [fr 33 (by decide) (by decide)]; simp only [el_se]; rfl
/-- after a change of the events behind what is there -/
theorem NR.ev {τs τ τ' : St} {A L M : List Evt} (hA : NR τ0 τs k p c e (A ++ L) τ) (hP : RP (e + A.length) τ τ') (hT : fl τ' 84 0 = e + A.length + M.length) (hM : At (RE τ') (e + A.length) M) : NR τ0 τs k p c e (A ++ M) τ' := by
  obtain ⟨a1, a2, a3, a4, a5, a6, a7, a8⟩ := hA
  have fr : ∀ a, a < 43 → el τ' a k = el τ a k := fun a h => hP.2.1 a k (Or.inl h)
  refine ⟨(hP.rq (k := k)).tb a1, (hP.1 96 0 (by decide)).trans a2, (fr 42 (by decide)).trans a3, (fr 41 (by decide)).trans a4, (fr 39 (by decide)).trans a5, a6.tr (hP.rq (k := k)) (by omega) (Int.le_refl _), by rw [hT, List.length_append]; omega, At.app ?_ hM⟩
  exact hP.at a8.l (Int.le_refl _)
/-- a change in the frame -/
theorem NR.se {τs τ : St} {A : List Evt} (hA : NR τ0 τs k p c e A τ) {a : Int} (ha : 33 ≤ a ∧ a ≤ 38) (v : Int) : NR τ0 τs k p c e A (se τ a k v) := by
  obtain ⟨a1, a2, a3, a4, a5, a6, a7, a8⟩ := hA
  refine ⟨(RQ.se e k τ (by omega) v).tb a1, a2, by rw [el_sen _ _ _ _ (by omega)]; exact a3, by rw [el_sen _ _ _ _ (by omega)]; exact a4, by rw [el_sen _ _ _ _ (by omega)]; exact a5, a6.tr (RQ.se e k τ (by omega) v) (Int.le_refl _) (Int.le_refl _), a7, a8.mono (fun j x _ _ _ hx => ?_)⟩
  unfold RE at hx ⊢
  rw [el_sen _ _ _ _ (by omega), el_sen _ _ _ _ (by omega), el_sen _ _ _ _ (by omega), el_sen _ _ _ _ (by omega), el_sen _ _ _ _ (by omega), el_sen _ _ _ _ (by omega)]
  exact hx
/-- the end of a node -/
theorem NR.pop {τs τ : St} {A : List Evt} (hA : NR τ0 τs k p c e A τ) : ∃ τ', r_step_292 N τ = some τ' ∧ RQ e k τs τ' ∧ fl τ' 96 0 = k ∧ fl τ' 84 0 = e + A.length ∧ At (RE τ') e A := by
  obtain ⟨a1, a2, a3, a4, a5, a6, a7, a8⟩ := hA
  refine ⟨sf τ 96 0 (fl τ 96 0 - 1), rfl, ⟨fun f i x y => by rw [fl_sfn _ _ _ _ y, a6.1 f i x y], a6.2.1, a6.2.2.1, a6.2.2.2⟩, by rw [fl_sfs, a2]; omega, a7, a8⟩
/-- the start of a node -/
theorem NR.rf {τ : St} (h : TB τ0 τ) (hF : FRM τ k p c) : NR τ0 τ k p c (fl τ 84 0) [] τ := ⟨h, hF.1, hF.2.1, hF.2.2.1, hF.2.2.2.2.1, RQ.rf _ _ _, by simp, trivial⟩
/-- tables read at a later state -/
theorem NR.t {τs τ : St} {A : List Evt} (hA : NR τ0 τs k p c e A τ) (a j : Int) (h : 53 ≤ a) : el τ a j = el τ0 a j := hA.1.1 a j h
theorem NR.grn {τs τ : St} {A : List Evt} (h : PR2 N τ0 d k p c e) (hA : NR τ0 τs k p c e A τ) {i : Int} (hi : el τ 37 k = i) (i0 : 0 ≤ i) (i1 : i < el τ0 64 p) : r_grainOf N τ k = some (τ, gr τ0 (kd τ0 p i)) := by
  obtain ⟨hHR, hT, hC, k0, k1, e0, e1, hN⟩ := h
  have bT := hT.2.2.1
  have pp := hT.pos
  have kp := (hT.2.2.2.1 i i0 i1).pos
  have kg := (hT.2.2.2.1 i i0 i1).rng.1
  rw [r_grainOf, grd_t (by exact ⟨by omega, by omega⟩), hA.2.2.1, grd_t (by exact ⟨by omega, by omega⟩), hA.t 65 _ (by decide), hi, grd_t (by exact ⟨by omega, by omega⟩), hA.t 58 _ (by decide), show el τ0 58 (el τ0 65 p + i) = kd τ0 p i from rfl, grd_t (by exact ⟨by omega, by omega⟩), hA.t 63 _ (by decide), show el τ0 63 (kd τ0 p i) = gr τ0 (kd τ0 p i) from rfl, grd_t (by exact ⟨by omega, by omega⟩)]
end RF
