/-! expressions: the children of a node -/
abbrev Ech : Type := Int × Option Int × List (Int × Int) × List Stq × (Int × Int) × (Int × Int) × Nat
def eC (x : Ech) : Int := x.1
def eO (x : Ech) : Option Int := x.2.1
def eA (x : Ech) : List (Int × Int) := x.2.2.1
def eS (x : Ech) : List Stq := x.2.2.2.1
def eL (x : Ech) : Int := x.2.2.2.2.1.1
def eH (x : Ech) : Int := x.2.2.2.2.1.2
def eW (x : Ech) : Int := x.2.2.2.2.2.1.1
def eZ (x : Ech) : Int := x.2.2.2.2.2.1.2
def eK (x : Ech) : Nat := x.2.2.2.2.2.2
/-- what the arguments of a function among pieces do -/
def FUq (N : Nat) (b : Bse) (τ : St) (lo hi : Int) (Kn : List Int) (j : Int) (seg : List Stq) (c : Int) (av : List (Int × Int)) (w z : Int) (k : Nat) : Prop := ∀ (x : Nat) (y : Int), x ≤ 12 → TKS N (UDl N x) (12 - x) (se τ 85 c y) (bV b) lo hi (bP b) Kn j seg (HLv (13 - x) + w) (HLv (13 - x) + z) k 0 0 [(7, c)] [] [] [] av
theorem FUq.cg {N : Nat} {b : Bse} {τ τ' : St} {lo hi lo' hi' j n w z w' z' : Int} {Kn Kn' : List Int} {seg : List Stq} {av : List (Int × Int)} {k k' : Nat} (h : FUq N b τ lo hi Kn j seg n av w z k) (ht : ∀ a i : Int, 85 ≤ a → a ≤ 94 → lo ≤ i → i < hi → ¬ (a = 85 ∧ i = n) → el τ' a i = el τ a i) (hK : Kn <+: Kn') (hl : lo' ≤ lo ∧ hi ≤ hi') (hu : w ≤ w' ∧ z ≤ z' ∧ k ≤ k') : FUq N b τ' lo' hi' Kn' j seg n av w' z' k' := fun x y hx => (h x y hx).mono hu.2.2 hl.1 hl.2 (fun a i x1 x2 x3 x4 => by
  rw [el_se, el_se]
  by_cases c : a = 85 ∧ i = n
  · rw [if_pos c, if_pos c]
  · rw [if_neg c, if_neg c, ht a i x1 x2 x3 x4 c]) hK (by omega) (by omega) (Int.le_refl _) (Int.le_refl _) (fun _ hx => hx) (fun _ hx => hx)
theorem FUq.use {N : Nat} {b : Bse} {τ : St} {lo hi j n w z : Int} {Kn : List Int} {seg : List Stq} {av : List (Int × Int)} {k : Nat} (h : FUq N b τ lo hi Kn j seg n av w z k) {x : Nat} (hx : x ≤ 12) : TKS N (UDl N x) (12 - x) τ (bV b) lo hi (bP b) Kn j seg (HLv (13 - x) + w) (HLv (13 - x) + z) k 0 0 [(7, n)] [] [] [] av := (h x (el τ 85 n) hx).mono (Nat.le_refl _) (Int.le_refl _) (Int.le_refl _) (fun a i _ _ _ _ => by
  rw [el_se]
  by_cases c : a = 85 ∧ i = n
  · rw [if_pos c, c.1, c.2]
  · rw [if_neg c]) (List.prefix_refl _) (Int.le_refl _) (Int.le_refl _) (Int.le_refl _) (Int.le_refl _) (fun _ hx => hx) (fun _ hx => hx)
/-- a child -/
def EC1 (N : Nat) (b : Bse) (τ : St) (Kn : List Int) (j : Int) (x : Ech) : Prop := ND (eL x) (eH x) (eC x) ∧ (0 ≤ eL x ∧ eH x ≤ 32768) ∧ (0 ≤ el τ 94 (eC x) ∧ el τ 94 (eC x) < 100 ∧ el τ 94 (eC x) ≠ 24) ∧ (∀ q ∈ eA x, bV b ≤ q.1 ∧ eL x ≤ q.1 ∧ q.1 < eH x) ∧ ((∃ o, eO x = some o ∧ eA x = [] ∧ ¬ (9 ≤ el τ 94 (eC x) ∧ el τ 94 (eC x) ≤ 13) ∧ EXq N b τ (eL x) (eH x) Kn j (eS x) (eC x) o (eW x) (eZ x) (eK x)) ∨ (eO x = none ∧ (9 ≤ el τ 94 (eC x) ∧ el τ 94 (eC x) ≤ 13) ∧ FUq N b τ (eL x) (eH x) Kn j (eS x) (eC x) (eA x) (eW x) (eZ x) (eK x)))
theorem EC1.cg {N : Nat} {b : Bse} {τ τ' : St} {Kn Kn' : List Int} {j : Int} {x : Ech} (h : EC1 N b τ Kn j x) (ht : ∀ a i : Int, 85 ≤ a → a ≤ 94 → eL x ≤ i → i < eH x → ¬ (a = 85 ∧ i = eC x) → el τ' a i = el τ a i) (hK : Kn <+: Kn') : EC1 N b τ' Kn' j x := by
  obtain ⟨h1, h2, h3, h4, h5⟩ := h
  have e : el τ' 94 (eC x) = el τ 94 (eC x) := ht 94 _ (by omega) (by omega) h1.2.1 h1.2.2 (by omega)
  refine ⟨h1, h2, by rw [e]; exact h3, h4, ?_⟩
  rcases h5 with ⟨o, q1, q2, q3, q4⟩ | ⟨q1, q2, q3⟩
  · exact Or.inl ⟨o, q1, q2, by rw [e]; exact q3, q4.cg ht hK ⟨Int.le_refl _, Int.le_refl _⟩ ⟨Int.le_refl _, Int.le_refl _, Nat.le_refl _⟩⟩
  · exact Or.inr ⟨q1, by rw [e]; exact q2, q3.cg ht hK ⟨Int.le_refl _, Int.le_refl _⟩ ⟨Int.le_refl _, Int.le_refl _, Nat.le_refl _⟩⟩
def ECs (N : Nat) (b : Bse) (τ : St) (Kn : List Int) : Int → Int → Int → List Ech → Prop
  | _, lo, hi, [] => lo ≤ hi
  | j, lo, hi, x :: xs => lo ≤ eL x ∧ EC1 N b τ Kn j x ∧ ECs N b τ Kn (j + (eS x).length) (eH x) hi xs
def egs : List Ech → List Stq
  | [] => []
  | x :: xs => eS x ++ egs xs
def ekk : List Ech → Nat
  | [] => 1
  | x :: xs => eK x + 2 + ekk xs
def eav : List Ech → List (Int × Int)
  | [] => []
  | x :: xs => eA x ++ eav xs
/-- the same with the values of patterns -/
def eaz : List Ech → List (Int × Int)
  | [] => []
  | x :: xs => (match eO x with | some o => [(eC x, o)] | none => eA x) ++ eaz xs
def eou : List Ech → List Int
  | [] => []
  | x :: xs => (match eO x with | some o => [o] | none => []) ++ eou xs
def EBd (w : Int) : Int → List Ech → Prop
  | z, [] => 0 ≤ z
  | z, x :: xs => (eW x + 2 ≤ w ∧ eZ x ≤ z ∧ 0 ≤ z) ∧ EBd w (z - 1) xs
theorem EBd.mono {w w' : Int} (h : w ≤ w') : ∀ {l : List Ech} {z z' : Int}, z ≤ z' → EBd w z l → EBd w' z' l
  | [], z, z', hz, k => by have : 0 ≤ z := k; show 0 ≤ z'; omega
  | x :: xs, z, z', hz, k => ⟨⟨by have := k.1.1; omega, by have := k.1.2.1; omega, by have := k.1.2.2; omega⟩, EBd.mono h (by omega) k.2⟩
theorem EBd.app {w : Int} {x : Ech} (h1 : eW x + 2 ≤ w) : ∀ {l : List Ech} {z : Int}, EBd w z l → eZ x + l.length ≤ z → (l.length : Int) + 1 ≤ z → EBd w z (l ++ [x])
  | [], z, _, h2, h3 => by
    simp only [List.length_nil] at h2 h3
    exact ⟨⟨h1, by omega, by omega⟩, by show 0 ≤ z - 1; omega⟩
  | y :: ys, z, h, h2, h3 => by
    have e : ((y :: ys).length : Int) = ys.length + 1 := by simp
    rw [e] at h2 h3
    exact ⟨h.1, EBd.app h1 h.2 (by omega) (by omega)⟩
theorem egs_app (l m : List Ech) : egs (l ++ m) = egs l ++ egs m := by
  induction l with
  | nil => rfl
  | cons x xs ih => show eS x ++ egs (xs ++ m) = _; rw [ih]; show _ = (eS x ++ egs xs) ++ egs m; rw [List.append_assoc]
theorem ekk_app (l : List Ech) (x : Ech) : ekk (l ++ [x]) = ekk l + eK x + 2 := by
  induction l with
  | nil => show eK x + 2 + 1 = 1 + eK x + 2; omega
  | cons y ys ih => show eK y + 2 + ekk (ys ++ [x]) = eK y + 2 + ekk ys + eK x + 2; rw [ih]; omega
theorem ECs.le {N : Nat} {b : Bse} {τ : St} {Kn : List Int} : ∀ {l : List Ech} {j lo hi : Int}, ECs N b τ Kn j lo hi l → lo ≤ hi ∧ ∀ x ∈ l, lo ≤ eL x ∧ eH x ≤ hi ∧ eL x ≤ eC x ∧ eC x < eH x
  | [], j, lo, hi, h => ⟨h, fun x hx => absurd hx (by simp)⟩
  | y :: ys, j, lo, hi, h => by
    obtain ⟨q1, q2⟩ := h.2.2.le
    have c := h.2.1.1
    refine ⟨by have := h.1; have := c.2; omega, fun x hx => ?_⟩
    rcases List.mem_cons.1 hx with rfl | hx
    · exact ⟨h.1, q1, c.2.1, c.2.2⟩
    · have := q2 x hx
      have := h.1
      have := c.2
      exact ⟨by omega, by omega, by omega, by omega⟩
theorem ECs.cg {N : Nat} {b : Bse} {τ τ' : St} {Kn Kn' : List Int} (hK : Kn <+: Kn') : ∀ {l : List Ech} {j lo hi : Int}, ECs N b τ Kn j lo hi l → (∀ x ∈ l, ∀ a i : Int, 85 ≤ a → a ≤ 94 → eL x ≤ i → i < eH x → ¬ (a = 85 ∧ i = eC x) → el τ' a i = el τ a i) → ECs N b τ' Kn' j lo hi l
  | [], j, lo, hi, h, _ => h
  | y :: ys, j, lo, hi, h, k => ⟨h.1, h.2.1.cg (k y (by simp)) hK, ECs.cg hK h.2.2 (fun x hx => k x (List.mem_cons_of_mem _ hx))⟩
theorem ECs.snoc {N : Nat} {b : Bse} {τ : St} {Kn : List Int} {x : Ech} {hi' : Int} (hh : eH x ≤ hi') : ∀ {l : List Ech} {j lo hi : Int}, ECs N b τ Kn j lo hi l → hi ≤ eL x → EC1 N b τ Kn (j + (egs l).length) x → ECs N b τ Kn j lo hi' (l ++ [x])
  | [], j, lo, hi, h, h1, h2 => by
    have h' : lo ≤ hi := h
    have h2' : EC1 N b τ Kn j x := by
      have e : j + ((egs []).length : Int) = j := by show j + ((0 : Nat) : Int) = j; omega
      rw [e] at h2
      exact h2
    exact ⟨by omega, h2', hh⟩
  | y :: ys, j, lo, hi, h, h1, h2 => by
    refine ⟨h.1, h.2.1, ECs.snoc hh h.2.2 h1 ?_⟩
    have e : j + (((eS y ++ egs ys).length : Nat) : Int) = j + (eS y).length + ((egs ys).length : Int) := by rw [List.length_append]; omega
    have e2 : (egs (y :: ys)).length = (eS y ++ egs ys).length := rfl
    rw [e2, e] at h2
    exact h2
theorem ECs.wide {N : Nat} {b : Bse} {τ : St} {Kn : List Int} {hi' : Int} : ∀ {l : List Ech} {j lo hi : Int}, ECs N b τ Kn j lo hi l → hi ≤ hi' → ECs N b τ Kn j lo hi' l
  | [], j, lo, hi, h, k => by have h' : lo ≤ hi := h; show lo ≤ hi'; omega
  | y :: ys, j, lo, hi, h, k => ⟨h.1, h.2.1, h.2.2.wide k⟩
/-- the chain of children -/
def ECn (τ : St) (lo hi r : Int) (l : List Ech) : Prop := CHn τ lo hi (l.map eC) (el τ 87 r) ∧ (l = [] ∨ ∃ x, l.getLast? = some x ∧ el τ 86 r = eC x)
theorem ECs.pw {N : Nat} {b : Bse} {τ : St} {Kn : List Int} : ∀ {l : List Ech} {j lo hi : Int}, ECs N b τ Kn j lo hi l → (l.map eC).Pairwise (fun a b => a < b)
  | [], j, lo, hi, h => List.Pairwise.nil
  | y :: ys, j, lo, hi, h => by
    show (eC y :: ys.map eC).Pairwise _
    rw [List.pairwise_cons]
    refine ⟨fun a ha => ?_, h.2.2.pw⟩
    obtain ⟨x, hx, rfl⟩ := List.mem_map.1 ha
    have := h.2.2.le.2 x hx
    have := h.2.1.1.2
    omega
theorem ECn.mv {N : Nat} {b : Bse} {τ τ' : St} {Kn : List Int} {j lo hi hi' r : Int} {l : List Ech} (hs : ECs N b τ Kn j lo hi l) (h : ECn τ lo hi r l) (h0 : el τ' 87 r = el τ 87 r ∧ el τ' 86 r = el τ 86 r) (hh : hi ≤ hi') (ht : ∀ x ∈ l, el τ' 94 (eC x) = el τ 94 (eC x) ∧ el τ' 85 (eC x) = el τ 85 (eC x)) : ECn τ' lo hi' r l := by
  refine ⟨?_, by rw [h0.2]; exact h.2⟩
  rw [h0.1]
  have aux : ∀ {cs : List Int} {c : Int}, CHn τ lo hi cs c → (∀ y ∈ cs, el τ' 94 y = el τ 94 y ∧ el τ' 85 y = el τ 85 y) → CHn τ' lo hi' cs c := by
    intro cs
    induction cs with
    | nil => intro c k _; exact k
    | cons y ys ih =>
      intro c k hq
      obtain ⟨⟨k1, k2, k3⟩, k4⟩ := k
      have e := hq y (by simp)
      refine ⟨⟨k1, ⟨k2.1, k2.2.1, by have := k2.2.2; omega⟩, by rw [e.1]; exact k3⟩, ?_⟩
      rw [e.2]
      exact ih k4 (fun z hz => hq z (List.mem_cons_of_mem _ hz))
  exact aux h.1 (fun y hy => by
    obtain ⟨x, hx, rfl⟩ := List.mem_map.1 hy
    exact ht x hx)
theorem ECn.app {N : Nat} {b : Bse} {τ : St} {Kn : List Int} {j lo hi hi' r c : Int} {l : List Ech} {x : Ech} (hs : ECs N b τ Kn j lo hi l) (h : ECn τ lo hi r l) (hx : EC1 N b τ Kn (j + (egs l).length) x) (hc : eC x = c) (hr : ∀ y, y ∈ l ∨ y = x → ¬ (eL y ≤ r ∧ r < eH y)) (hxl : hi ≤ eL x) (hh : eH x ≤ hi') : ECs N b (apN τ r c) Kn j lo hi' (l ++ [x]) ∧ ECn (apN τ r c) lo hi' r (l ++ [x]) := by
  subst hc
  obtain ⟨le, mem⟩ := hs.le
  have x1 := hx.1
  have x3 := hx.2.2.1
  have rx := hr x (Or.inr rfl)
  have rc : r ≠ eC x := fun e => rx (by rw [e]; exact x1.2)
  obtain ⟨h1, h2⟩ := h
  have last86 : l ≠ [] → ∃ y ∈ l, el τ 86 r = eC y ∧ l.getLast? = some y := fun hne => by
    rcases h2 with q | ⟨y, y1, y2⟩
    · exact absurd q hne
    · exact ⟨y, List.mem_of_getLast? y1, y2, y1⟩
  have e87 : l = [] → el τ 87 r = -1 := fun e => by rw [e] at h1; exact h1
  have n87 : l ≠ [] → el τ 87 r ≠ -1 := fun hne e => by
    obtain ⟨y, ys, rfl⟩ : ∃ y ys, l = y :: ys := by cases l with | nil => exact absurd rfl hne | cons y ys => exact ⟨y, ys, rfl⟩
    have k := h1.1
    have := k.2.1.1.1
    have := k.1
    omega
  -- what the new table holds
  have ap : ∀ a i : Int, i ≠ r → ¬ (a = 85 ∧ (i = eC x ∨ (l ≠ [] ∧ i = el τ 86 r))) → el (apN τ r (eC x)) a i = el τ a i := fun a i hi hq => by
    unfold apN
    by_cases c : el τ 87 r = -1
    · rw [if_pos c, el_se, if_neg (by omega), el_se, if_neg (by omega), el_se, if_neg (by omega)]
    · have hne : l ≠ [] := fun e => c (e87 e)
      have hq2 : ¬ (a = 85 ∧ i = el τ 86 r) := fun q => hq ⟨q.1, Or.inr ⟨hne, q.2⟩⟩
      have hq1 : ¬ (a = 85 ∧ i = eC x) := fun q => hq ⟨q.1, Or.inl q.2⟩
      rw [if_neg c, el_se, if_neg hq1, el_se, if_neg (by omega), el_se, if_neg hq2]
  have a86 : el (apN τ r (eC x)) 86 r = eC x := by
    unfold apN
    split
    · rw [el_sen _ _ _ _ (by decide), el_ses]
    · rw [el_sen _ _ _ _ (by decide), el_ses]
  have a85 : el (apN τ r (eC x)) 85 (eC x) = -1 := by
    unfold apN
    split <;> rw [el_ses]
  have sx : EC1 N b (apN τ r (eC x)) Kn (j + (egs l).length) x := hx.cg (fun a i _ _ x3 x4 x5 => ap a i (fun e => rx (by rw [← e]; exact ⟨x3, x4⟩)) (fun q => by
    rcases q.2 with q2 | ⟨hne, q2⟩
    · exact x5 ⟨q.1, q2⟩
    · obtain ⟨y, y1, y2, -⟩ := last86 hne
      have := mem y y1
      omega)) (List.prefix_refl _)
  have sl : ECs N b (apN τ r (eC x)) Kn j lo hi l := hs.cg (List.prefix_refl _) (fun y hy a i _ _ x3 x4 x5 => ap a i (fun e => hr y (Or.inl hy) (by rw [← e]; exact ⟨x3, x4⟩)) (fun q => by
    have my := mem y hy
    rcases q.2 with q2 | ⟨hne, q2⟩
    · have := x1.2.1
      omega
    · obtain ⟨y', y1, y2, -⟩ := last86 hne
      have my' := mem y' y1
      by_cases e : y' = y
      · rw [e] at y2
        exact x5 ⟨q.1, by omega⟩
      · -- two children, one place
        have hp : ∀ {l : List Ech} {j lo hi : Int}, ECs N b τ Kn j lo hi l → y ∈ l → y' ∈ l → eL y ≤ i → i < eH y → i = eC y' → y' = y := by
          intro l
          induction l with
          | nil => intro _ _ _ _ h _; exact absurd h (by simp)
          | cons u us ih =>
            intro j lo hi k m1 m2 i1 i2 i3
            have kl := k.2.2.le.2
            have k1 := k.2.1.1.2
            rcases List.mem_cons.1 m1 with r1 | r1
            · rcases List.mem_cons.1 m2 with r2 | r2
              · rw [r1, r2]
              · have := kl y' r2
                rw [r1] at i1 i2
                exfalso
                omega
            · rcases List.mem_cons.1 m2 with r2 | r2
              · have := kl y r1
                rw [r2] at i3
                exfalso
                omega
              · exact ih k.2.2 r1 r2 i1 i2 i3
        exact e (hp hs hy y1 x3 x4 (by omega))))
  refine ⟨ECs.snoc hh sl hxl sx, ?_, Or.inr ⟨x, by simp, a86⟩⟩
  have mp : (l ++ [x]).map eC = l.map eC ++ [eC x] := by simp
  have ndx : ND lo hi' (eC x) := ⟨x1.1, by have := x1.2.1; omega, by have := x1.2.2; omega⟩
  have e94 : ∀ i, i ≠ r → el (apN τ r (eC x)) 94 i = el τ 94 i := fun i hi => ap 94 i hi (by omega)
  rw [mp]
  by_cases hne : l = []
  · rw [hne]
    have a87 : el (apN τ r (eC x)) 87 r = eC x := by
      unfold apN
      rw [if_pos (e87 hne), el_sen _ _ _ _ (by decide), el_sen _ _ _ _ (by decide), el_ses]
    rw [a87]
    exact ⟨⟨rfl, ndx, by rw [e94 _ (fun e => rc e.symm)]; exact ⟨x3.1, x3.2.1⟩⟩, a85⟩
  · obtain ⟨y, y1, y2, y3⟩ := last86 hne
    have a87 : el (apN τ r (eC x)) 87 r = el τ 87 r := by
      unfold apN
      rw [if_neg (n87 hne), el_sen _ _ _ _ (by decide), el_sen _ _ _ _ (by decide), el_sen _ _ _ _ (by decide)]
    rw [a87]
    have ay : el (apN τ r (eC x)) 85 (eC y) = eC x := by
      have my := mem y y1
      unfold apN
      rw [if_neg (n87 hne), el_se, if_neg (by have := x1.2.1; omega), el_sen _ _ _ _ (by decide), ← y2, el_ses]
    have h1' : CHn τ lo hi' (l.map eC) (el τ 87 r) := h1.mono (Int.le_refl _) (by have := x1.2; omega)
    refine CHn.snoc (x := eC y) ⟨ndx, by rw [e94 _ (fun e => rc e.symm)]; exact ⟨x3.1, x3.2.1⟩⟩ a85 ay h1' hs.pw ?_ ?_
    · rw [List.getLast?_map, y3]; rfl
    · intro u hu
      obtain ⟨v, v1, rfl⟩ := List.mem_map.1 hu
      have mv := mem v v1
      have rv := hr v (Or.inl v1)
      have nr : eC v ≠ r := fun e => rv (by rw [← e]; exact ⟨mv.2.2.1, mv.2.2.2⟩)
      refine ⟨e94 _ nr, fun hn => ap 85 _ nr (fun q => ?_)⟩
      rcases q.2 with q2 | ⟨-, q2⟩
      · have := x1.2.1; omega
      · exact hn (by rw [q2, y2])
