/-! nodes and frames of the reference's reading -/
section RN
variable {N : Nat}
/-- the loop of reading: k turns lead from one state to another -/
def PLb (τ : St) : Prop := 0 ≤ fl τ 41 0 ∧ fl τ 41 0 ≤ 700
def RLp (N k : Nat) (τ τ' : St) : Prop := (∀ n, r_readExp_17 N (n + k) τ = r_readExp_17 N n τ') ∧ (PLb τ → PLb τ')
theorem RLp.rf (τ : St) : RLp N 0 τ τ := ⟨fun _ => rfl, fun h => h⟩
theorem RLp.tr {k1 k2 : Nat} {τ τ1 τ2 : St} (h : RLp N k1 τ τ1) (k : RLp N k2 τ1 τ2) : RLp N (k1 + k2) τ τ2 := ⟨fun n => by rw [← k.1 n, ← h.1 (n + k2)]; congr 1; omega, fun q => k.2 (h.2 q)⟩
/-- the function of a frame's kind -/
def rdK (N : Nat) (K : Int) (τ : St) (k : Int) : Option St := if K = 1 then r_readRow N τ k 38 1 2 else if K = 2 then r_readRow N τ k 59 2 3 else if K = 3 then r_readSum N τ k else if K = 4 then r_readApp N τ k else if K = 5 then r_readArg N τ k else if K = 6 then r_readWants N τ k else if K = 7 then r_readFun N τ k else if K = 8 then r_readPieces N τ k else if K = 9 then r_readPiece N τ k else if K = 10 then r_readSeq N τ k else if K = 11 then r_readStep N τ k else r_readPart N τ k
theorem kq_rdK {K d v : Int} {τ : St} (hv : fl τ 41 0 = v) : Kp (fun r => v - 1 ≤ fl r 41 0 ∧ fl r 41 0 ≤ v + 1) (rdK N K τ d) := by
  unfold rdK
  refine Kp.ite (kq_r_readRow hv) (Kp.ite (kq_r_readRow hv) (Kp.ite (kq_r_readSum hv) (Kp.ite (kq_r_readApp hv) (Kp.ite (kq_r_readArg hv) (Kp.ite (kq_r_readWants hv) (Kp.ite (kq_r_readFun hv) (Kp.ite (kq_r_readPieces hv) (Kp.ite (kq_r_readPiece hv) (Kp.ite (kq_r_readSeq hv) (Kp.ite (kq_r_readStep hv) (kq_r_readPart hv)))))))))))
theorem RLp.one {τ τ' : St} {d K : Int} (h41 : fl τ 41 0 = d + 1) (hd : 0 ≤ d ∧ d < 600) (h11 : fl τ 11 0 = 0) (hK : el τ 74 d = K ∧ 1 ≤ K ∧ K ≤ 12) (h : rdK N K τ d = some τ') : RLp N 1 τ τ' := by
  refine ⟨fun n => ?_, fun _ => by have q := kq_rdK h41 _ h; exact ⟨by omega, by omega⟩⟩
  rw [r_readExp_17, h41, grd_t (by exact ⟨by omega, by omega⟩), if_pos (by omega), h11, grd_t (by decide), if_pos rfl, bnd, show d + 1 - 1 = d by omega, grd_t (by exact ⟨hd.1, hd.2⟩), hK.1, grd_t (by exact ⟨by omega, by omega⟩)]
  unfold rdK at h
  have step : ∀ (o : Option St), o = some τ' → Option.bind o (fun r => r_readExp_205 N (r_readExp_17 N n) r) = r_readExp_17 N n τ' := fun o ho => by rw [ho, Option.bind_some]; rfl
  by_cases c1 : K = 1
  · rw [if_pos c1] at h ⊢; exact step _ h
  rw [if_neg c1] at h ⊢
  by_cases c2 : K = 2
  · rw [if_pos c2] at h ⊢; exact step _ h
  rw [if_neg c2] at h ⊢
  by_cases c3 : K = 3
  · rw [if_pos c3] at h ⊢; exact step _ h
  rw [if_neg c3] at h ⊢
  by_cases c4 : K = 4
  · rw [if_pos c4] at h ⊢; exact step _ h
  rw [if_neg c4] at h ⊢
  by_cases c5 : K = 5
  · rw [if_pos c5] at h ⊢; exact step _ h
  rw [if_neg c5] at h ⊢
  by_cases c6 : K = 6
  · rw [if_pos c6] at h ⊢; exact step _ h
  rw [if_neg c6] at h ⊢
  by_cases c7 : K = 7
  · rw [if_pos c7] at h ⊢; exact step _ h
  rw [if_neg c7] at h ⊢
  by_cases c8 : K = 8
  · rw [if_pos c8] at h ⊢; exact step _ h
  rw [if_neg c8] at h ⊢
  by_cases c9 : K = 9
  · rw [if_pos c9] at h ⊢; exact step _ h
  rw [if_neg c9] at h ⊢
  by_cases c10 : K = 10
  · rw [if_pos c10] at h ⊢; exact step _ h
  rw [if_neg c10] at h ⊢
  by_cases c11 : K = 11
  · rw [if_pos c11] at h ⊢; exact step _ h
  rw [if_neg c11] at h ⊢
  exact step _ h
/-- what reading leaves alone: nodes below lo, frames below d -/
def RDr (lo d : Int) (τ τ' : St) : Prop := (∀ (f : Nat) (i : Int), ¬ (2 ≤ f ∧ f ≤ 13) → f ≠ 16 → f ≠ 41 → f ≠ 46 → f ≠ 47 → fl τ' f i = fl τ f i) ∧ (∀ a j : Int, ¬ (71 ≤ a ∧ a ≤ 74) → ¬ (84 ≤ a ∧ a ≤ 94) → el τ' a j = el τ a j) ∧ (∀ a j : Int, 84 ≤ a → a ≤ 94 → j < lo → el τ' a j = el τ a j) ∧ ∀ a j : Int, 71 ≤ a → a ≤ 74 → j < d → el τ' a j = el τ a j
theorem RDr.rf (lo d : Int) (τ : St) : RDr lo d τ τ := ⟨fun _ _ _ _ _ _ _ => rfl, fun _ _ _ _ => rfl, fun _ _ _ _ _ => rfl, fun _ _ _ _ _ => rfl⟩
theorem RDr.tr {lo lo1 d d1 : Int} {τ τ1 τ2 : St} (h : RDr lo d τ τ1) (k : RDr lo1 d1 τ1 τ2) (h1 : lo ≤ lo1) (h2 : d ≤ d1) : RDr lo d τ τ2 := ⟨fun f i a b c e g => (k.1 f i a b c e g).trans (h.1 f i a b c e g), fun a j x y => (k.2.1 a j x y).trans (h.2.1 a j x y), fun a j x y z => (k.2.2.1 a j x y (by omega)).trans (h.2.2.1 a j x y z), fun a j x y z => (k.2.2.2 a j x y (by omega)).trans (h.2.2.2 a j x y z)⟩
theorem RDr.xf {lo d : Int} {τ τ1 τ2 : St} (h : RDr lo d τ τ1) (k : XFr τ1 τ2) : RDr lo d τ τ2 := h.tr (lo1 := lo) (d1 := d) ⟨fun f i a _ _ _ _ => k.1 f i (by omega) (by omega) (by omega) (by omega), fun a j _ _ => k.2 a j, fun a j _ _ _ => k.2 a j, fun a j _ _ _ => k.2 a j⟩ (Int.le_refl _) (Int.le_refl _)
theorem RDr.sf {lo d : Int} {τ τ1 : St} (h : RDr lo d τ τ1) (f : Nat) (v : Int) (hf : (2 ≤ f ∧ f ≤ 13) ∨ f = 16 ∨ f = 41 ∨ f = 46 ∨ f = 47) : RDr lo d τ (sf τ1 f 0 v) := h.tr (lo1 := lo) (d1 := d) ⟨fun g i a b c e q => fl_sfn _ _ _ _ (by omega), fun _ _ _ _ => rfl, fun _ _ _ _ _ => rfl, fun _ _ _ _ _ => rfl⟩ (Int.le_refl _) (Int.le_refl _)
theorem RDr.sn {lo d : Int} {τ τ1 : St} (h : RDr lo d τ τ1) (a j v : Int) (ha : 84 ≤ a ∧ a ≤ 94) (hj : lo ≤ j) : RDr lo d τ (se τ1 a j v) := h.tr (lo1 := lo) (d1 := d) ⟨fun _ _ _ _ _ _ _ => rfl, fun b i x y => by rw [el_sen _ _ _ _ (by omega)], fun b i x y z => by rw [el_se, if_neg (by omega)], fun b i x y z => by rw [el_sen _ _ _ _ (by omega)]⟩ (Int.le_refl _) (Int.le_refl _)
theorem RDr.sp {lo d : Int} {τ τ1 : St} (h : RDr lo d τ τ1) (a j v : Int) (ha : 71 ≤ a ∧ a ≤ 74) (hj : d ≤ j) : RDr lo d τ (se τ1 a j v) := h.tr (lo1 := lo) (d1 := d) ⟨fun _ _ _ _ _ _ _ => rfl, fun b i x y => by rw [el_sen _ _ _ _ (by omega)], fun b i x y z => by rw [el_sen _ _ _ _ (by omega)], fun b i x y z => by rw [el_se, if_neg (by omega)]⟩ (Int.le_refl _) (Int.le_refl _)
/-- a new node -/
def nwN (τ : St) (k p : Int) : St := se (se (se (se (se (se (se (se (se (se (se (sf τ 16 0 (fl τ 16 0 + 1)) 94 (fl τ 16 0) k) 93 (fl τ 16 0) p) 92 (fl τ 16 0) 0) 91 (fl τ 16 0) 0) 90 (fl τ 16 0) 0) 89 (fl τ 16 0) 0) 88 (fl τ 16 0) 0) 87 (fl τ 16 0) (-1)) 86 (fl τ 16 0) (-1)) 85 (fl τ 16 0) (-1)) 84 (fl τ 16 0) (-1)
theorem r_node' {τ : St} {k p : Int} (h : 0 ≤ fl τ 16 0 ∧ fl τ 16 0 < 32768) : r_node N τ k p = some (nwN τ k p, fl τ 16 0) := by
  rw [r_node, grd_t (by exact ⟨h.1, h.2⟩)]; rfl
theorem nwN_fl (τ : St) (k p : Int) (f : Nat) (i : Int) (hf : f ≠ 16) : fl (nwN τ k p) f i = fl τ f i := by unfold nwN; simp only [fl_se]; exact fl_sfn _ _ _ _ hf
theorem nwN_16 (τ : St) (k p : Int) : fl (nwN τ k p) 16 0 = fl τ 16 0 + 1 := by unfold nwN; simp only [fl_se]; exact fl_sfs _ _ _ _
theorem nwN_el (τ : St) (k p : Int) (a j : Int) (h : ¬ (84 ≤ a ∧ a ≤ 94 ∧ j = fl τ 16 0)) : el (nwN τ k p) a j = el τ a j := by
  unfold nwN
  rw [el_se, if_neg (by omega), el_se, if_neg (by omega), el_se, if_neg (by omega), el_se, if_neg (by omega), el_se, if_neg (by omega), el_se, if_neg (by omega), el_se, if_neg (by omega), el_se, if_neg (by omega), el_se, if_neg (by omega), el_se, if_neg (by omega), el_se, if_neg (by omega), el_sf]
theorem nwN_v (τ : St) (k p : Int) : el (nwN τ k p) 94 (fl τ 16 0) = k ∧ el (nwN τ k p) 93 (fl τ 16 0) = p ∧ el (nwN τ k p) 92 (fl τ 16 0) = 0 ∧ el (nwN τ k p) 91 (fl τ 16 0) = 0 ∧ el (nwN τ k p) 90 (fl τ 16 0) = 0 ∧ el (nwN τ k p) 89 (fl τ 16 0) = 0 ∧ el (nwN τ k p) 88 (fl τ 16 0) = 0 ∧ el (nwN τ k p) 87 (fl τ 16 0) = -1 ∧ el (nwN τ k p) 86 (fl τ 16 0) = -1 ∧ el (nwN τ k p) 85 (fl τ 16 0) = -1 := by
  unfold nwN
  simp [el_se]
theorem nwN_rd {τ0 τ : St} {lo d : Int} (h : RDr lo d τ0 τ) (k p : Int) (hl : lo ≤ fl τ 16 0) : RDr lo d τ0 (nwN τ k p) := h.tr (lo1 := lo) (d1 := d) ⟨fun f i _ b _ _ _ => nwN_fl τ k p f i b, fun a j _ y => nwN_el τ k p a j (by omega), fun a j _ _ z => nwN_el τ k p a j (by omega), fun a j _ y _ => nwN_el τ k p a j (by omega)⟩ (Int.le_refl _) (Int.le_refl _)
/-- a frame is done -/
theorem r_finish' {τ : St} {n : Int} : r_finish N τ n = some (sf (sf τ 46 0 n) 41 0 (fl τ 41 0 - 1)) := rfl
/-- a new frame -/
def nwF (τ : St) (k n num : Int) : St := sf (se (se (se (se τ 74 (fl τ 41 0) k) 73 (fl τ 41 0) n) 72 (fl τ 41 0) 0) 71 (fl τ 41 0) num) 41 0 (fl τ 41 0 + 1)
theorem r_begin' {τ : St} {k n num : Int} (h : 0 ≤ fl τ 41 0 ∧ fl τ 41 0 < 600) : r_begin N τ k n num = some (nwF τ k n num) := by
  rw [r_begin, grd_t (by exact ⟨h.1, h.2⟩)]; rfl
theorem nwF_fl (τ : St) (k n num : Int) (f : Nat) (i : Int) (hf : f ≠ 41) : fl (nwF τ k n num) f i = fl τ f i := by unfold nwF; rw [fl_sfn _ _ _ _ hf]; rfl
theorem nwF_41 (τ : St) (k n num : Int) : fl (nwF τ k n num) 41 0 = fl τ 41 0 + 1 := by unfold nwF; exact fl_sfs _ _ _ _
theorem nwF_el (τ : St) (k n num : Int) (a j : Int) (h : ¬ (71 ≤ a ∧ a ≤ 74 ∧ j = fl τ 41 0)) : el (nwF τ k n num) a j = el τ a j := by
  unfold nwF
  rw [el_sf, el_se, if_neg (by omega), el_se, if_neg (by omega), el_se, if_neg (by omega), el_se, if_neg (by omega)]
theorem nwF_v (τ : St) (k n num : Int) : el (nwF τ k n num) 74 (fl τ 41 0) = k ∧ el (nwF τ k n num) 73 (fl τ 41 0) = n ∧ el (nwF τ k n num) 72 (fl τ 41 0) = 0 ∧ el (nwF τ k n num) 71 (fl τ 41 0) = num := by
  unfold nwF
  simp [el_se, el_sf]
theorem nwF_rd {τ0 τ : St} {lo d : Int} (h : RDr lo d τ0 τ) (k n num : Int) (hl : d ≤ fl τ 41 0) : RDr lo d τ0 (nwF τ k n num) := h.tr (lo1 := lo) (d1 := d) ⟨fun f i _ _ c _ _ => nwF_fl τ k n num f i c, fun a j x _ => nwF_el τ k n num a j (by omega), fun a j x y _ => nwF_el τ k n num a j (by omega), fun a j _ _ z => nwF_el τ k n num a j (by omega)⟩ (Int.le_refl _) (Int.le_refl _)
/-- a child is appended -/
def apN (τ : St) (to c : Int) : St := if el τ 87 to = -1 then se (se (se τ 87 to c) 86 to c) 85 c (-1) else se (se (se τ 85 (el τ 86 to) c) 86 to c) 85 c (-1)
theorem r_append' {τ : St} {to c : Int} (h1 : inb to 32768) (h2 : inb c 32768) (h3 : el τ 87 to = -1 ∨ inb (el τ 86 to) 32768) (h4 : i32 (el τ 87 to)) : r_append N τ to c = some (apN τ to c) := by
  rw [r_append, grd_t h1, grd_t h4]
  unfold apN
  by_cases e : el τ 87 to = -1
  · rw [if_pos e, if_pos e, r_append_32, grd_t h1, grd_t h2]
  · rw [if_neg e, if_neg e, grd_t (h3.resolve_left e), r_append_32, grd_t h1, grd_t h2]
theorem apN_fl (τ : St) (to c : Int) (f : Nat) (i : Int) : fl (apN τ to c) f i = fl τ f i := by unfold apN; split <;> rfl
theorem apN_el (τ : St) (to c : Int) (a j : Int) (h : ¬ (a = 87 ∧ j = to) ∧ ¬ (a = 86 ∧ j = to) ∧ ¬ (a = 85 ∧ (j = c ∨ j = el τ 86 to))) : el (apN τ to c) a j = el τ a j := by
  unfold apN
  split
  · rw [el_se, if_neg (by omega), el_se, if_neg (by omega), el_se, if_neg (by omega)]
  · rw [el_se, if_neg (by omega), el_se, if_neg (by omega), el_se, if_neg (by omega)]
theorem apN_rd {τ0 τ : St} {lo d to c : Int} (h : RDr lo d τ0 τ) (hl : lo ≤ to ∧ lo ≤ c ∧ (el τ 87 to = -1 ∨ lo ≤ el τ 86 to)) : RDr lo d τ0 (apN τ to c) := by
  unfold apN
  split
  · exact ((h.sn 87 to c (by omega) hl.1).sn 86 to c (by omega) hl.1).sn 85 c (-1) (by omega) hl.2.1
  · rename_i e
    exact ((h.sn 85 (el τ 86 to) c (by omega) (hl.2.2.resolve_left e)).sn 86 to c (by omega) hl.1).sn 85 c (-1) (by omega) hl.2.1
end RN
