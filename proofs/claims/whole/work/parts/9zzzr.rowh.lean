/-! rows of expressions: helpers -/
def eop (x : Ech) : Int := match eO x with | some o => o | none => 0
def eopz (l : List Ech) : List Kid := l.map (fun x => (eop x, 1, 1))
theorem eopz_len (l : List Ech) : (eopz l).length = l.length := by unfold eopz; rw [List.length_map]
theorem eopz_app (l m : List Ech) : eopz (l ++ m) = eopz l ++ eopz m := by unfold eopz; rw [List.map_append]
theorem eopz_1 : ∀ {l : List Ech}, (∀ y ∈ l, eO y ≠ none) → (eopz l).map (fun k => k.1) = eou l
  | [], _ => rfl
  | x :: xs, h => by
    show eop x :: (eopz xs).map (fun k => k.1) = (match eO x with | some o => [o] | none => []) ++ eou xs
    rw [eopz_1 (fun y hy => h y (List.mem_cons_of_mem _ hy))]
    have hx := h x (by simp)
    unfold eop
    cases e : eO x with
    | none => exact absurd e hx
    | some o => rfl
theorem eopz_2 {N : Nat} {b : Bse} {τ : St} {Kn : List Int} : ∀ {l : List Ech} {j lo hi : Int}, ECs N b τ Kn j lo hi l → (eopz l).map (fun k => k.2) = (l.map eC).map (wtn τ)
  | [], _, _, _, _ => rfl
  | x :: xs, j, lo, hi, h => by
    show (1, 1) :: (eopz xs).map (fun k => k.2) = wtn τ (eC x) :: (xs.map eC).map (wtn τ)
    rw [eopz_2 h.2.2]
    unfold wtn
    rw [if_neg h.2.1.2.2.1.2.2]
section RW9
variable {N : Nat} {b : Bse}
/-- the whole row is made -/
theorem row_make {τ : St} {Kn : List Int} {lo hi r j Kf place w z : Int} {l : List Ech} (hN : 30000001 ≤ N) (hP : bP b ≤ 4) (hKf : Kf = 1 ∨ Kf = 2) (hr : lo ≤ r ∧ r < hi ∧ 0 ≤ lo ∧ hi ≤ 32768) (h94 : el τ 94 r = Kf) (h93 : el τ 93 r = place) (h92 : el τ 92 r = l.length) (hs : ECs N b τ Kn j lo hi l) (hn : ECn τ lo hi r l) (hrr : ∀ y ∈ l, ¬ (eL y ≤ r ∧ r < eH y)) (ho : ∀ y ∈ l, eO y ≠ none) (hb : EBd w z l) (hw : 0 ≤ w ∧ 0 ≤ z) (hl : l.length ≤ 2000) (h2 : 2 ≤ l.length) : EXq N b τ lo hi Kn j (egs l ++ [(Kf + 4, place, (l.length : Int), 0, 0, 0, 1, eopz l)]) r (bP b + (j + (egs l).length)) (w + 1) z (ekk l + 2) := by
  intro x y hx
  have hl' := HLv_b hx
  have e : ∀ a i, ¬ (a = 85 ∧ i = r) → el (se τ 85 r y) a i = el τ a i := fun a i hq => by rw [el_se, if_neg hq]
  have mem := hs.le.2
  have nr : ∀ u ∈ l, eC u ≠ r := fun u hu q => hrr u hu (by have := mem u hu; rw [← q]; exact ⟨this.2.2.1, this.2.2.2⟩)
  have hs' : ECs N b (se τ 85 r y) Kn j lo hi l := hs.cg (List.prefix_refl _) (fun u hu a i _ _ x3 x4 _ => e a i (fun q => hrr u hu (by rw [← q.2]; exact ⟨x3, x4⟩)))
  have hn' : ECn (se τ 85 r y) lo hi r l := ECn.mv hs hn ⟨e 87 r (by omega), e 86 r (by omega)⟩ (Int.le_refl _) (fun u hu => ⟨e 94 _ (by omega), e 85 _ (fun q => nr u hu q.2)⟩)
  have k1 := kids_e (x := x) hN hP hw.1 hx hs' hn'.1 hb ho
  have len : (eopz l).length = l.length := eopz_len l
  have wq : wgt (eopz l) := ⟨fun q => by rw [q] at len; simp at len; omega, by omega⟩
  have k2 := tk_row (U := UDl N x) (ℓ := 12 - x) (vlo := bV b) (τp := se τ 85 r y) (lo := lo) (hi := hi) (P := bP b) (Kn := Kn) (j := j + (egs l).length) (u := HLv (13 - x) + (w + 1)) (v := HLv (13 - x) + z) (k := 1) (e := 0) (δ := 0) (avq := []) (n := r) (K := Kf + 4) (place := place) (a := l.length) (cnt := 1) (cs := l.map eC) (ops := eopz l) hN ⟨⟨by omega, by omega⟩, hr.1, hr.2.1⟩ (by
    rw [e 94 r (by omega), h94]
    unfold RKd
    rcases hKf with rfl | rfl
    · exact Or.inl ⟨rfl, rfl, rfl⟩
    · exact Or.inr (Or.inl ⟨rfl, rfl, rfl⟩)) hn'.1 (by rw [e 93 r (by omega)]; exact h93) (by rw [e 92 r (by omega)]; exact h92) (eopz_2 hs') (by
    unfold IV
    rcases hKf with rfl | rfl
    · refine Or.inr (Or.inr (Or.inr (Or.inr (Or.inl ⟨rfl, wq, fun q hq => ?_⟩))))
      unfold eopz at hq
      obtain ⟨u, -, rfl⟩ := List.mem_map.1 hq
      rfl
    · exact Or.inr (Or.inr (Or.inr (Or.inr (Or.inr (Or.inl ⟨rfl, wq⟩)))))) (fun q hq => by
      unfold eopz at hq
      obtain ⟨u, -, rfl⟩ := List.mem_map.1 hq
      exact ⟨⟨show (1 : Int) ≤ 1 by decide, show (1 : Int) ≤ 16 by decide⟩, show (1 : Int) ≤ 1 by decide, show (1 : Int) ≤ 16 by decide⟩) (by omega) (fun _ => by omega) (by omega) ⟨by omega, by omega⟩ (Nat.le_refl _) (by
      rw [len]
      unfold bsd
      rw [if_neg (by decide)]
      omega) ⟨by
      rw [len]
      unfold bsd
      rw [if_neg (by decide)]
      omega, Int.le_refl _⟩
  rw [eopz_1 ho] at k2
  exact mk_row hN hP ⟨⟨by omega, by omega⟩, hr.1, hr.2.1⟩ (by rw [e 94 r (by omega), h94]; omega) rfl k1 k2 ⟨Int.le_refl _, Int.le_refl _⟩ ⟨Int.le_refl _, Int.le_refl _⟩ ⟨by omega, by omega, by omega⟩ ⟨by omega, by omega⟩ (Nat.le_refl _) (by omega) ⟨Int.le_refl _, by omega⟩
/-- the reference's turn at a row: what was read is appended -/
theorem rr_row71 {τ : St} {d r c Ks x5 : Int} (hd : 0 ≤ d ∧ d < 500) (h73 : el τ 73 d = r) (h46 : fl τ 46 0 = c) (hr : inb r 32768) (hc : inb c 32768) (h3 : el τ 87 r = -1 ∨ inb (el τ 86 r) 32768) (h4 : i32 (el τ 87 r)) (hx : i32 x5) : r_readRow_71 N τ d Ks x5 = if x5 = 0 then some (sf (sf (se (apN τ r c) 92 r (el (apN τ r c) 92 r + 1)) 46 0 r) 41 0 (fl τ 41 0 - 1)) else Option.bind (r_advance N (se (apN τ r c) 92 r (el (apN τ r c) 92 r + 1))) (fun r26 => r_begin N r26 Ks (-1) 0) := by
  have e73 : el (apN τ r c) 73 d = r := by rw [apN_el _ _ _ _ _ (by omega)]; exact h73
  rw [r_readRow_71, grd_t (by exact ⟨hd.1, by omega⟩), h73, h46, r_append' hr hc h3 h4, Option.bind_some, e73, grd_t hr, grd_t hx]
  by_cases c0 : x5 = 0
  · rw [if_pos c0, if_pos c0]
    simp only [bnd]
    rw [r_finish', Option.bind_some, fl_se, apN_fl]
  · rw [if_neg c0, if_neg c0]
    simp only [bnd]
    cases r_advance N (se (apN τ r c) 92 r (el (apN τ r c) 92 r + 1)) with
    | none => rfl
    | some q =>
      rw [Option.bind_some, Option.bind_some]
      cases r_begin N q Ks (-1) 0 <;> rfl
end RW9
