/-! counts of functions: both -/
section FE
variable {N : Nat} {b : Bse} {dl : List (Int × Int)}
theorem se_id {σ : St} {a i v : Int} (h : el σ a i = v) : se σ a i v = σ := by
  refine Prod.ext rfl ?_
  funext x y
  show (if x = a ∧ y = i then v else σ.2 x y) = σ.2 x y
  split
  · rename_i e
    rw [e.1, e.2]
    exact h.symm
  · rfl
theorem ite_iff {α : Type} {p q : Prop} [Decidable p] [Decidable q] {x y : α} (h : p ↔ q) : (if p then x else y) = if q then x else y := by
  by_cases c : p
  · rw [if_pos c, if_pos (h.1 c)]
  · rw [if_neg c, if_neg (fun w => c (h.2 w))]
theorem c_count {π : Sh} {σ : St} {pc f x x2 : Int} (ho : ob π pc 6) (h120 : fl σ 120 pc = f ∧ i32 f) (h1 : fl σ 185 1 = 2) (hx : fl σ 189 1 = x ∧ 0 ≤ x ∧ x ≤ 9999) (h2 : x2 = 0 ∨ x2 = 1) (hf : fl σ 182 1 = 0) : Rd_count N π σ pc x2 = if x ≤ (if f = 16 ∨ f = 17 ∨ f = 18 then 1000 else 32) ∧ (x ≠ 0 ∨ f = 16 ∨ f = 17 ∨ f = 18 ∨ f = 13 ∨ x2 = 0) then (if x2 = 1 then Sc_advance N π (sf σ 122 pc x) else Sc_advance N π (sf σ 123 pc x)) else some (sf (sf σ 182 1 3) 183 1 (fl σ 186 1)) := by
  obtain ⟨F, hF⟩ : ∃ F, F = some (sf (sf σ 182 1 3) 183 1 (fl σ 186 1)) := ⟨_, rfl⟩
  obtain ⟨W, hW⟩ : ∃ W, W = if x2 = 1 then Sc_advance N π (sf σ 122 pc x) else Sc_advance N π (sf σ 123 pc x) := ⟨_, rfl⟩
  rw [← hF, ← hW]
  have flt : Rd_count_140 N π σ = F := by rw [Rd_count_140, c_fail (by rw [hf]; decide), Option.bind_some, flS, if_pos hf, hF]
  have bindid : ∀ q : Option St, Option.bind q (fun r53 => some r53) = q := fun q => by cases q <;> rfl
  have k156 : Rd_count_156 N π σ pc x2 = W := by
    rw [Rd_count_156, hx.1, hW]
    rcases h2 with h | h
    · rw [h, grd_t (by decide), if_pos rfl, grd_t ho, if_neg (by decide), Rd_count_185, bindid]
    · rw [h, grd_t (by decide), if_neg (by decide), grd_t ho, if_pos rfl, Rd_count_185, bindid]
  have k111 : ∀ x4 s0, i32 x4 → i32 s0 → Rd_count_111 N π σ pc x2 x4 s0 = if x ≤ s0 ∧ (x ≠ 0 ∨ x4 ≠ 0) then W else F := by
    intro x4 s0 i4 i0
    rw [Rd_count_111, hx.1, grd_t (by exact ⟨by omega, by omega⟩), grd_t i0, k156, flt]
    by_cases c1 : s0 < x
    · rw [if_pos c1]; exact (if_neg (by omega)).symm
    rw [if_neg c1]
    by_cases c2 : x = 0
    · rw [if_pos c2, grd_t i4]
      by_cases c3 : x4 = 0
      · rw [if_pos c3]; exact (if_neg (by omega)).symm
      · rw [if_neg c3]; exact (if_pos ⟨by omega, Or.inr c3⟩).symm
    · rw [if_neg c2]; exact (if_pos ⟨by omega, Or.inl c2⟩).symm
  have k97a : ∀ s0, (s0 = 0 ∨ s0 = 1) → Rd_count_97 N π σ pc x2 0 s0 = if x ≤ 32 ∧ (x ≠ 0 ∨ s0 ≠ 0) then W else F := by
    intro s0 hs
    rw [Rd_count_97, grd_t (by decide), if_pos rfl, k111 s0 32 ⟨by omega, by omega⟩ (by decide)]
  have k97b : Rd_count_97 N π σ pc x2 1 1 = if x ≤ 1000 ∧ (x ≠ 0 ∨ (1 : Int) ≠ 0) then W else F := by
    rw [Rd_count_97, grd_t (by decide), if_neg (by decide), k111 1 1000 (by decide) (by decide)]
  have k740 : Rd_count_74 N π σ pc x2 0 = if x ≤ 32 ∧ (x ≠ 0 ∨ f = 13 ∨ x2 = 0) then W else F := by
    rw [Rd_count_74, grd_t (by decide), if_pos rfl, grd_t ho, h120.1, grd_t h120.2]
    by_cases c1 : f = 13
    · rw [if_pos c1, Rd_count_92, k97a 1 (Or.inr rfl)]
      exact ite_iff (by omega)
    · rw [if_neg c1, grd_t (by exact ⟨by omega, by omega⟩)]
      by_cases c2 : x2 = 0
      · rw [if_pos c2, Rd_count_92, k97a 1 (Or.inr rfl)]
        exact ite_iff (by omega)
      · rw [if_neg c2, k97a 0 (Or.inl rfl)]
        exact ite_iff (by omega)
  have k741 : Rd_count_74 N π σ pc x2 1 = if x ≤ 1000 then W else F := by
    rw [Rd_count_74, grd_t (by decide), if_neg (by decide), Rd_count_92, k97b]
    exact ite_iff (by omega)
  rw [Rd_count, h1, grd_t (by decide), if_pos rfl, grd_t ho, h120.1, grd_t h120.2]
  by_cases cd : f = 16 ∨ f = 17 ∨ f = 18
  · have e : (if f = 16 then Rd_count_69 N π σ pc x2 else if f = 17 then Rd_count_69 N π σ pc x2 else if f = 18 then Rd_count_69 N π σ pc x2 else Rd_count_74 N π σ pc x2 0) = Rd_count_69 N π σ pc x2 := by
      rcases cd with w | w | w
      · rw [if_pos w]
      · rw [if_neg (by omega), if_pos w]
      · rw [if_neg (by omega), if_neg (by omega), if_pos w]
    rw [e, Rd_count_69, k741, if_pos cd]
    exact ite_iff (by omega)
  · rw [if_neg (by omega), if_neg (by omega), if_neg (by omega), k740, if_neg cd]
    exact ite_iff (by omega)
theorem r_count {τ : St} {n f x a0 x2 : Int} (hn : inb n 32768) (h92 : el τ 92 n = f ∧ i32 f) (h1 : fl τ 3 0 = 3) (hx : fl τ 9 0 = x ∧ 0 ≤ x ∧ x ≤ 9999) (ha : el τ 91 n = a0 ∧ i32 a0) (h2 : (x2 = 1 ∧ (f = 6 → a0 = 0)) ∨ (x2 = 0 ∧ f = 6 ∧ a0 ≠ 0)) (hf : fl τ 11 0 = 0) : r_readCount N τ n = if x ≤ (if f = 16 ∨ f = 17 ∨ f = 18 then 1000 else 32) ∧ (x ≠ 0 ∨ f = 16 ∨ f = 17 ∨ f = 18 ∨ f = 13 ∨ x2 = 0) then (if x2 = 1 then r_advance N (se τ 91 n x) else r_advance N (se τ 90 n x)) else some (sf (sf τ 11 0 3) 12 0 (fl τ 4 0)) := by
  obtain ⟨F, hF⟩ : ∃ F, F = some (sf (sf τ 11 0 3) 12 0 (fl τ 4 0)) := ⟨_, rfl⟩
  obtain ⟨W, hW⟩ : ∃ W, W = if x2 = 1 then r_advance N (se τ 91 n x) else r_advance N (se τ 90 n x) := ⟨_, rfl⟩
  rw [← hF, ← hW]
  have bindid : ∀ q : Option St, Option.bind q (fun r53 => some r53) = q := fun q => by cases q <;> rfl
  have k151 : r_readCount_151 N τ = F := by rw [r_readCount_151, r_fail0 hf, Option.bind_some, hF]
  have x20 : x2 = 0 ∨ x2 = 1 := by omega
  have k131 : ∀ x4 s0, (x4 = 0 ∨ x4 = 1) → i32 s0 → r_readCount_131 N τ n (1 - x2) x4 s0 = if x ≤ s0 ∧ (x ≠ 0 ∨ x4 = 0) then W else F := by
    intro x4 s0 h4 i0
    have tail : (if (1 - x2 : Int) = 0 then grd (inb n 32768) (r_readCount_188 N (se τ 91 n (fl τ 9 0))) else grd (inb n 32768) (r_readCount_188 N (se τ 90 n (fl τ 9 0)))) = W := by
      rw [hx.1, hW]
      rcases x20 with h | h
      · rw [h, if_neg (by decide), grd_t hn, if_neg (by decide), r_readCount_188, bindid]
      · rw [h, if_pos (by decide), grd_t hn, if_pos rfl, r_readCount_188, bindid]
    rw [r_readCount_131, k151, tail, hx.1, grd_t (by exact ⟨by omega, by omega⟩), grd_t (by exact ⟨by omega, by omega⟩)]
    by_cases c1 : x < x4
    · rw [if_pos c1]; exact (if_neg (by omega)).symm
    rw [if_neg c1, grd_t i0]
    by_cases c2 : s0 < x
    · rw [if_pos c2]; exact (if_neg (by omega)).symm
    · rw [if_neg c2, grd_t (by exact ⟨by omega, by omega⟩)]; exact (if_pos ⟨by omega, by omega⟩).symm
  have k103 : ∀ s0, (s0 = 0 ∨ s0 = 1) → r_readCount_103 N τ n f (1 - x2) s0 = if x ≤ (if f = 16 ∨ f = 17 ∨ f = 18 then 1000 else 32) ∧ (x ≠ 0 ∨ s0 = 0) then W else F := by
    intro s0 hs
    rw [r_readCount_103, grd_t h92.2]
    by_cases cd : f = 16 ∨ f = 17 ∨ f = 18
    · have e : (if f = 16 then r_readCount_123 N τ n (1 - x2) s0 else if f = 17 then r_readCount_123 N τ n (1 - x2) s0 else if f = 18 then r_readCount_123 N τ n (1 - x2) s0 else r_readCount_131 N τ n (1 - x2) s0 32) = r_readCount_123 N τ n (1 - x2) s0 := by
        rcases cd with w | w | w
        · rw [if_pos w]
        · rw [if_neg (by omega), if_pos w]
        · rw [if_neg (by omega), if_neg (by omega), if_pos w]
      rw [e, r_readCount_123, k131 s0 1000 hs (by decide), if_pos cd]
    · rw [if_neg (by omega), if_neg (by omega), if_neg (by omega), k131 s0 32 hs (by decide), if_neg cd]
  have fin : ∀ s0, (s0 = 0 ↔ (f = 16 ∨ f = 17 ∨ f = 18 ∨ f = 13 ∨ x2 = 0)) → (s0 = 0 ∨ s0 = 1) → r_readCount_103 N τ n f (1 - x2) s0 = if x ≤ (if f = 16 ∨ f = 17 ∨ f = 18 then 1000 else 32) ∧ (x ≠ 0 ∨ f = 16 ∨ f = 17 ∨ f = 18 ∨ f = 13 ∨ x2 = 0) then W else F := by
    intro s0 he hs
    rw [k103 s0 hs]
    exact ite_iff ⟨fun w => ⟨w.1, by rcases w.2 with q | q; exact Or.inl q; exact Or.inr (he.1 q)⟩, fun w => ⟨w.1, by rcases w.2 with q | q; exact Or.inl q; exact Or.inr (he.2 q)⟩⟩
  have k69 : r_readCount_69 N τ n f (1 - x2) = if x ≤ (if f = 16 ∨ f = 17 ∨ f = 18 then 1000 else 32) ∧ (x ≠ 0 ∨ f = 16 ∨ f = 17 ∨ f = 18 ∨ f = 13 ∨ x2 = 0) then W else F := by
    rw [r_readCount_69]
    rcases x20 with h | h
    · have e1 : (1 - x2 : Int) = 1 := by omega
      have w := fin 0 ⟨fun _ => by omega, fun _ => rfl⟩ (Or.inl rfl)
      rw [e1] at w
      rw [e1, grd_t (by decide), if_neg (by decide), r_readCount_98, w]
    · have e1 : (1 - x2 : Int) = 0 := by omega
      have w0 := fin 0
      have w1 := fin 1
      rw [e1] at w0 w1
      rw [e1, grd_t (by decide), if_pos rfl, grd_t h92.2]
      by_cases cd : f = 13 ∨ f = 16 ∨ f = 17 ∨ f = 18
      · have e : (if f = 13 then r_readCount_98 N τ n f 0 else if f = 16 then r_readCount_98 N τ n f 0 else if f = 17 then r_readCount_98 N τ n f 0 else if f = 18 then r_readCount_98 N τ n f 0 else r_readCount_103 N τ n f 0 1) = r_readCount_98 N τ n f 0 := by
          rcases cd with w | w | w | w
          · rw [if_pos w]
          · rw [if_neg (by omega), if_pos w]
          · rw [if_neg (by omega), if_neg (by omega), if_pos w]
          · rw [if_neg (by omega), if_neg (by omega), if_neg (by omega), if_pos w]
        rw [e, r_readCount_98, w0 ⟨fun _ => by omega, fun _ => rfl⟩ (Or.inl rfl)]
      · rw [if_neg (by omega), if_neg (by omega), if_neg (by omega), if_neg (by omega), w1 ⟨fun z => by omega, fun z => by omega⟩ (Or.inr rfl)]
  rw [r_readCount, h1, grd_t (by decide), if_neg (by decide), r_readCount_17, h1, grd_t (by decide), if_pos rfl, r_readCount_34, hf, grd_t (by decide), if_pos rfl, grd_t hn]
  simp only [bnd]
  rw [h92.1, grd_t h92.2]
  by_cases c6 : f = 6
  · rw [if_pos c6, ha.1, grd_t ha.2]
    rcases h2 with ⟨h, h3⟩ | ⟨h, -, h3⟩
    · rw [if_pos (h3 c6), r_readCount_68]
      have e1 : (1 - x2 : Int) = 0 := by omega
      rw [e1] at k69
      rw [k69]
    · rw [if_neg h3]
      have e1 : (1 - x2 : Int) = 1 := by omega
      rw [e1] at k69
      rw [k69]
  · rw [if_neg c6, r_readCount_68]
    have e1 : (1 - x2 : Int) = 0 := by
      rcases h2 with h | h
      · omega
      · exact absurd h.2.1 c6
    rw [e1] at k69
    rw [k69]
set_option maxHeartbeats 2000000 in
/-- both read a count -/
theorem cn_both {X : Int → Prop} {π : Sh} {σ τ : St} {L : List Stq} {Kn : List Int} {pc n f a0 b0 x2 : Int} (hN : 30000001 ≤ N) (hc : CTX b dl) (h : XEs b X π σ τ L Kn) (ho : ob π pc 6) (hpc : nn b.1 ≤ pc ∧ 56 ≤ pc) (h120 : fl σ 120 pc = f ∧ i32 f) (hab : fl σ 122 pc = a0 ∧ fl σ 123 pc = b0) (hn : inb n 32768 ∧ bV b ≤ n) (h92 : el τ 92 n = f) (hab' : el τ 91 n = a0 ∧ el τ 90 n = b0) (ha : i32 a0) (h2 : (x2 = 1 ∧ a0 = 0) ∨ (x2 = 0 ∧ f = 6 ∧ a0 ≠ 0)) : NBo N b X L Kn pc n 91 122 123 π σ τ (Rd_count N π σ pc x2) (r_readCount N τ n) (fun u v => (x2 = 1 → v = b0 ∧ 0 ≤ u ∧ u ≤ (if f = 16 ∨ f = 17 ∨ f = 18 then 1000 else 32) ∧ (u ≠ 0 ∨ f = 16 ∨ f = 17 ∨ f = 18 ∨ f = 13)) ∧ (x2 = 0 → u = a0 ∧ 0 ≤ v ∧ v ≤ 32)) := by
  have tk := h.2.1
  have f0 := h.2.2.1
  have kd := tk.kd
  by_cases c1 : fl σ 185 1 = 2
  · have t3 : fl τ 3 0 = 3 := kd.2.2.2.2.1.1 c1
    obtain ⟨x, hx1, hx2⟩ : ∃ x, fl σ 189 1 = x ∧ (fl τ 9 0 = x ∧ 0 ≤ x ∧ x ≤ 9999) := by
      have t6 := tk.2.2.2.2.2
      rcases t6 with q | q | ⟨q, -⟩ | q | q | q | q | ⟨sg, s1, s2, -⟩
      · omega
      · omega
      · omega
      · exact ⟨fl τ 9 0, q.2.2.2.1.1, ⟨rfl, q.2.2.2.1.2⟩⟩
      · omega
      · omega
      · omega
      · unfold isSgB isOpB at s1; omega
    have cF := c_count (N := N) (x2 := x2) ho h120 c1 ⟨hx1, hx2.2⟩ (by omega) f0.1
    have rF := r_count (N := N) (x2 := x2) hn.1 ⟨h92, h120.2⟩ t3 hx2 ⟨hab'.1, ha⟩ (by omega) f0.2
    by_cases cG : x ≤ (if f = 16 ∨ f = 17 ∨ f = 18 then 1000 else 32) ∧ (x ≠ 0 ∨ f = 16 ∨ f = 17 ∨ f = 18 ∨ f = 13 ∨ x2 = 0)
    · rw [if_pos cG] at cF rF
      right
      rcases h2 with ⟨w, w2⟩ | ⟨w, w2, w3⟩
      · rw [if_pos w] at cF rF
        obtain ⟨σ', τ', q1, q2, q3⟩ := nb_go (N := N) (u := x) (v := b0) (F1 := 122) (F2 := 123) (G := 91) hN hc h hpc hn.2 (by omega) (by decide) (by decide) (by decide) (by decide)
        have e1 : sf (sf σ 122 pc x) 123 pc b0 = sf σ 122 pc x := sf_id (by rw [fl_sfn _ _ _ _ (by decide)]; exact hab.2)
        have e2 : se (se τ 91 n x) (91 - 1) n b0 = se τ 91 n x := se_id (by rw [el_sen _ _ _ _ (by decide)]; exact hab'.2)
        rw [e1] at q1
        rw [e2] at q2
        exact ⟨x, b0, σ', τ', cF.trans q1, rF.trans q2, ⟨fun _ => ⟨rfl, hx2.2.1, cG.1, by omega⟩, fun z => by omega⟩, q3⟩
      · rw [if_neg (by omega)] at cF rF
        obtain ⟨σ', τ', q1, q2, q3⟩ := nb_go (N := N) (u := a0) (v := x) (F1 := 122) (F2 := 123) (G := 91) hN hc h hpc hn.2 (by omega) (by decide) (by decide) (by decide) (by decide)
        rw [sf_id hab.1] at q1
        rw [se_id hab'.1] at q2
        have i32x : x ≤ 32 := by
          have := cG.1
          rw [if_neg (by omega)] at this
          exact this
        exact ⟨a0, x, σ', τ', cF.trans q1, rF.trans q2, ⟨fun z => by omega, fun _ => ⟨rfl, hx2.2.1, i32x⟩⟩, q3⟩
    · rw [if_neg cG] at cF rF
      rw [tk.2.1] at cF
      exact Or.inl ⟨3, Or.inr rfl, cF, rF⟩
  · have t7 := kd.2.1
    have t3 : ¬ fl τ 3 0 = 3 := fun e => c1 (kd.2.2.2.2.1.2 e)
    have k31 : ∀ e, Rd_count_31 N π σ e = some (sf (sf σ 182 1 e) 183 1 (fl τ 4 0)) := fun e => by
      rw [Rd_count_31, c_fail (by rw [f0.1]; decide), Option.bind_some, flS, if_pos f0.1, tk.2.1]
    have k34 : ∀ e, e ≠ 0 → i32 e → r_readCount_34 N (sf (sf τ 11 0 e) 12 0 (fl τ 4 0)) n = some (sf (sf τ 11 0 e) 12 0 (fl τ 4 0)) := fun e he hi => by
      rw [r_readCount_34, fl_sfn _ _ _ _ (by decide), fl_sfs, grd_t hi, if_neg he]
    by_cases c2 : fl σ 185 1 = 3
    · have t4 : fl τ 3 0 = 4 := kd.2.2.2.2.2.1.1 c2
      refine Or.inl ⟨3, Or.inr rfl, ?_, ?_⟩
      · rw [Rd_count, c2, grd_t (by decide), if_neg (by decide), if_pos rfl, k31]
      · rw [r_readCount, t4, grd_t (by decide), if_pos rfl, r_fail0 f0.2, Option.bind_some, r_readCount_17, fl_sfn _ _ _ _ (by decide), fl_sfn _ _ _ _ (by decide), t4, grd_t (by decide), if_neg (by decide), r_fail, fl_sfn _ _ _ _ (by decide), fl_sfs, grd_t (by decide), if_neg (by decide), Option.bind_some, k34 3 (by decide) (by decide)]
    · have t4 : ¬ fl τ 3 0 = 4 := fun e => c2 (kd.2.2.2.2.2.1.2 e)
      refine Or.inl ⟨1, Or.inl rfl, ?_, ?_⟩
      · rw [Rd_count, grd_t kd.1, if_neg c1, if_neg c2, k31]
      · rw [r_readCount, grd_t (by exact ⟨by omega, by omega⟩), if_neg t4, r_readCount_17, grd_t (by exact ⟨by omega, by omega⟩), if_neg t3, r_fail0 f0.2, Option.bind_some, k34 1 (by decide) (by decide)]
end FE
