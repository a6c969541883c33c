/-! rows of the class: events met with what another pattern sounds -/
theorem lstL_snoc {P : Evt → Bool} {x : Evt} : ∀ (l : List Evt), lstL P (l ++ [x]) = if P x then some x.2.2 else lstL P l
  | [] => by simp [lstL]
  | e :: l => by
    rw [List.cons_append, lstL, lstL_snoc l]
    by_cases h : P x = true
    · rw [if_pos h, if_pos h]
    · rw [if_neg h, if_neg h, lstL]
theorem lstL_none {P : Evt → Bool} : ∀ {l : List Evt}, (∀ e ∈ l, P e = false) → lstL P l = none
  | [], _ => rfl
  | e :: l, h => by
    rw [lstL, lstL_none (fun x hx => h x (by simp [hx])), h e (by simp)]
    rfl
theorem lstL_app {P : Evt → Bool} : ∀ {l m : List Evt}, (∀ e ∈ m, P e = false) → lstL P (l ++ m) = lstL P l
  | [], m, h => by rw [List.nil_append]; exact lstL_none h
  | e :: l, m, h => by rw [List.cons_append, lstL, lstL_app h, lstL]
theorem lstL_congr {P P' : Evt → Bool} : ∀ {l : List Evt}, (∀ e ∈ l, P e = P' e) → lstL P l = lstL P' l
  | [], _ => rfl
  | e :: l, h => by rw [lstL, lstL, lstL_congr (fun x hx => h x (by simp [hx])), h e (by simp)]
/-- which events of the other sound at t -/
def sou (g h later t : Int) : Evt → Bool := fun o => decide ((o.1 + later) * g ≤ t ∧ t < (o.1 + o.2.1 + later) * g)
/-- an event and its mark, after a row of the other -/
def mtR (K a g h later : Int) (O : List Evt) (x : Evt × Int) : Evt × Int :=
  if x.2 = 0 then (match lstL (sou g h later (x.1.1 * h)) O with
    | some s => ((x.1.1, x.1.2.1, joiV K a x.1.2.2 s), if K = 24 ∧ louE s = false then 2 else 1)
    | none => x) else x
def opn : List (Evt × Int) → Int
  | [] => 0
  | x :: l => (if x.2 = 0 then 1 else 0) + opn l
section CKa
variable {N : Nat} {π : Sh}
/-- what is begun at time t -/
theorem c_begun {rec9 : St → Int → Int → Int → Int → Int → Int → Int → Int → Option (St × Int)} {s to g h later met i t : Int} (hg : 1 ≤ g ∧ g ≤ 1000000) (hla : -100000000 ≤ later ∧ later ≤ 100000000) (ht : i64 t) (h0 : 0 ≤ to) : ∀ (O2 : List Evt) (n : Nat) (σ : St) (O1 : List Evt), O2.length < n → At (CE σ) (to + O1.length) O2 → to + (O1.length + O2.length) = fl σ 46 10 → fl σ 46 10 ≤ 6000 → (∀ o ∈ O2, 0 ≤ o.1 ∧ o.1 ≤ 1000000) → ∃ A B, O2 = A ++ B ∧ (∀ o ∈ A, (o.1 + later) * g ≤ t) ∧ (∀ o l, B = o :: l → t < (o.1 + later) * g) ∧ Rw_meetRow_46 N π rec9 n σ s to g h later met (to + O1.length) i t = Rw_meetRow_86 N π rec9 σ s to g h later met (to + (O1.length + A.length)) i t
  | [], n + 1, σ, O1, _, _, h1, h2, _ => by
    simp only [List.length_nil] at h1
    refine ⟨[], [], rfl, by simp, fun o l k => by simp at k, ?_⟩
    rw [Rw_meetRow_46, grd_t (by exact ⟨by omega, by omega⟩), grd_t (by exact ⟨by omega, by omega⟩), if_neg (by omega)]
    rw [show to + ((O1.length : Int) + (([] : List Evt).length : Int)) = to + O1.length by simp]
  | o :: O2, n + 1, σ, O1, hn, ha, h1, h2, hb => by
    simp only [List.length_cons] at h1 hn
    obtain ⟨b1, b2⟩ := hb o (by simp)
    have e1 : el σ 11 (to + O1.length) = o.1 := ha.1.1
    have m1 : -100000000 * g ≤ (o.1 + later) * g := Int.mul_le_mul_of_nonneg_right (by omega) (by omega)
    have m2 : (o.1 + later) * g ≤ 101000000 * g := Int.mul_le_mul_of_nonneg_right (by omega) (by omega)
    have st : Rw_meetRow_46 N π rec9 (n + 1) σ s to g h later met (to + O1.length) i t = if t < (o.1 + later) * g then Rw_meetRow_86 N π rec9 σ s to g h later met (to + O1.length) i t else Rw_meetRow_46 N π rec9 n σ s to g h later met (to + O1.length + 1) i t := by
      rw [Rw_meetRow_46, grd_t (by exact ⟨by omega, by omega⟩), grd_t (by exact ⟨by omega, by omega⟩), if_pos (by omega), grd_t (by exact ⟨by omega, by omega⟩), e1, grd_t (by exact ⟨by omega, by omega⟩), grd_t ht]
    by_cases c : t < (o.1 + later) * g
    · refine ⟨[], o :: O2, rfl, by simp, fun o' l k => ?_, ?_⟩
      · cases k; exact c
      · rw [st, if_pos c]
        rw [show to + ((O1.length : Int) + (([] : List Evt).length : Int)) = to + O1.length by simp]
    · have kk : (O1.length : Int) + 1 = ((O1 ++ [o]).length : Int) := by simp only [List.length_append, List.length_cons, List.length_nil]; omega
      obtain ⟨A, B, p1, p2, p3, p4⟩ := c_begun (rec9 := rec9) (s := s) (h := h) (met := met) (i := i) hg hla ht h0 O2 n σ (O1 ++ [o]) (by omega) (by rw [← kk, show to + ((O1.length : Int) + 1) = to + O1.length + 1 by omega]; exact ha.2) (by rw [← kk]; omega) h2 (fun x hx => hb x (by simp [hx]))
      refine ⟨o :: A, B, by rw [p1]; rfl, fun x hx => ?_, p3, ?_⟩
      · rcases List.mem_cons.1 hx with rfl | hx
        · omega
        · exact p2 x hx
      · rw [st, if_neg c, show to + (O1.length : Int) + 1 = to + ((O1.length : Int) + 1) by omega, kk, p4]
        congr 1
        simp only [List.length_append, List.length_cons, List.length_nil]
        omega
/-- the last of these that goes on -/
theorem c_down {rec9 : St → Int → Int → Int → Int → Int → Int → Int → Int → Option (St × Int)} {s to g h later met begun i t : Int} (hg : 1 ≤ g ∧ g ≤ 1000000) (hla : -100000000 ≤ later ∧ later ≤ 100000000) (ht : i64 t) (h0 : 0 ≤ to) : ∀ (n : Nat) (Q : List Evt) (σ : St), Q.length < n → At (CE σ) to Q → to + Q.length ≤ 6000 → (∀ o ∈ Q, 0 ≤ o.1 ∧ o.1 ≤ 1000000 ∧ 0 ≤ o.2.1 ∧ o.2.1 ≤ 100000000) → ∃ k', Rw_meetRow_92 N π rec9 n σ s to g h later met begun i t (to + Q.length - 1) = Rw_meetRow_137 N π rec9 σ s to g h later met begun i k' ∧ ((k' = to - 1 ∧ lstL (fun o => decide (t < (o.1 + o.2.1 + later) * g)) Q = none) ∨ (∃ x, to ≤ k' ∧ k' < to + Q.length ∧ CE σ k' x ∧ lstL (fun o => decide (t < (o.1 + o.2.1 + later) * g)) Q = some x.2.2)) := by
  intro n
  induction n with
  | zero => intro Q σ h; omega
  | succ n ih =>
    intro Q σ hn ha h2 hb
    by_cases hq : Q = []
    · subst hq
      simp only [List.length_nil]
      refine ⟨to - 1, ?_, Or.inl ⟨rfl, rfl⟩⟩
      rw [show to + ((0 : Nat) : Int) - 1 = to - 1 by omega, Rw_meetRow_92, grd_t (by exact ⟨by omega, by simp at h2; omega⟩), grd_t (by exact ⟨by omega, by simp at h2; omega⟩), if_pos (by omega)]
    · obtain ⟨Q', x, rfl⟩ : ∃ Q' x, Q = Q' ++ [x] := ⟨Q.dropLast, Q.getLast hq, (List.dropLast_concat_getLast hq).symm⟩
      have len : ((Q' ++ [x]).length : Int) = Q'.length + 1 := by simp
      rw [len] at h2 ⊢
      have hx : CE σ (to + Q'.length) x := ha.rt.1
      obtain ⟨b1, b2, b3, b4⟩ := hb x (by simp)
      have m1 : -100000000 * g ≤ (x.1 + x.2.1 + later) * g := Int.mul_le_mul_of_nonneg_right (by omega) (by omega)
      have m2 : (x.1 + x.2.1 + later) * g ≤ 201000000 * g := Int.mul_le_mul_of_nonneg_right (by omega) (by omega)
      have st : Rw_meetRow_92 N π rec9 (n + 1) σ s to g h later met begun i t (to + (Q'.length + 1) - 1) = if t < (x.1 + x.2.1 + later) * g then Rw_meetRow_137 N π rec9 σ s to g h later met begun i (to + Q'.length) else Rw_meetRow_92 N π rec9 n σ s to g h later met begun i t (to + Q'.length - 1) := by
        rw [show to + ((Q'.length : Int) + 1) - 1 = to + Q'.length by omega, Rw_meetRow_92, grd_t (by exact ⟨by omega, by omega⟩), grd_t (by exact ⟨by omega, by omega⟩), if_neg (by omega), grd_t (by exact ⟨by omega, by omega⟩), hx.1, hx.2.1, grd_t (by exact ⟨by omega, by omega⟩), grd_t ht]
        rfl
      rw [st, lstL_snoc]
      by_cases c : t < (x.1 + x.2.1 + later) * g
      · rw [if_pos c]
        exact ⟨to + Q'.length, rfl, Or.inr ⟨x, by omega, by omega, hx, by rw [if_pos (decide_eq_true c)]⟩⟩
      · rw [if_neg c]
        obtain ⟨k', p1, p2⟩ := ih Q' σ (by simp at hn; omega) ha.l (by omega) (fun o ho => hb o (by simp [ho]))
        refine ⟨k', p1, ?_⟩
        rw [if_neg (by rw [decide_eq_true_iff]; exact c)]
        rcases p2 with p2 | ⟨y, y1, y2, y3, y4⟩
        · exact Or.inl p2
        · exact Or.inr ⟨y, y1, by omega, y3, y4⟩
/-- a row of the other, met with the events that are open -/
theorem c_meetRow {s to g h later K a : Int} (hN : 6001 ≤ N) (hs : ob π s 10) (hg : 1 ≤ g ∧ g ≤ 1000000) (hh : 1 ≤ h ∧ h ≤ 1000000) (hla : -100000000 ≤ later ∧ later ≤ 100000000) {O : List Evt} (hO : Srt O) (hOb : ∀ o ∈ O, 0 ≤ o.1 ∧ o.1 ≤ 1000000 ∧ 0 ≤ o.2.1 ∧ o.2.1 ≤ 100000000) {t0 : Int} (ht0 : 0 ≤ t0) : ∀ (l : List (Evt × Int)) (n : Nat) (σ : St) (D : List (Evt × Int)) (O1 O2 : List Evt) (met : Int), l.length < n → ((K = 23 ∧ fl σ 200 s = 19) ∨ (K = 24 ∧ fl σ 200 s = 20) ∨ (K = 25 ∧ fl σ 200 s = 21)) → (K = 25 → fl σ 202 s = a ∧ i32 a) → At (CM σ) t0 (D ++ l) → to = t0 + (D.length + l.length) → At (CE σ) to O → fl σ 46 10 = to + O.length → fl σ 46 10 ≤ 6000 → O = O1 ++ O2 → (∀ o ∈ O1, ∀ x ∈ l, (o.1 + later) * g ≤ x.1.1 * h) → l.Pairwise (fun x y => x.1.1 ≤ y.1.1) → (∀ x ∈ l, (0 ≤ x.1.1 ∧ x.1.1 ≤ 1000000) ∧ i32 x.2) → ∃ σ', Rw_meetRow_9 N π n σ s to g h later met (to + O1.length) (t0 + D.length) = some (σ', met + (opn l - opn (l.map (mtR K a g h later O)))) ∧ (∀ f j, fl σ' f j = fl σ f j) ∧ (∀ b j, (j < t0 + D.length ∨ to ≤ j) ∨ b < 13 ∨ 16 < b → el σ' b j = el σ b j) ∧ At (CM σ') t0 (D ++ l.map (mtR K a g h later O))
  | [], n + 1, σ, D, O1, O2, met, _, _, _, hA, hto, _, hT, h6, _, _, _, _ => by
    simp only [List.length_nil] at hto
    refine ⟨σ, ?_, fun _ _ => rfl, fun _ _ _ => rfl, hA⟩
    rw [Rw_meetRow_9, grd_t (by exact ⟨by omega, by omega⟩), grd_t (by exact ⟨by omega, by omega⟩), if_neg (by omega)]
    rw [List.map_nil, show met + (opn [] - opn []) = met by omega]
  | x :: l, n + 1, σ, D, O1, O2, met, hn, hK, ha, hA, hto, hOA, hT, h6, hO12, hO1, hp, hx => by
    simp only [List.length_cons] at hto hn
    obtain ⟨⟨x1, x2⟩, x3⟩ := hx x (by simp)
    have hp2 := List.pairwise_cons.1 hp
    have cx : CM σ (t0 + D.length) x := hA.rt.1
    have cl : At (CM σ) (t0 + D.length + 1) l := hA.rt.2
    have kk : (D.length : Int) + 1 = ((D ++ [x]).length : Int) := by simp only [List.length_append, List.length_cons, List.length_nil]; omega
    have op1 : opn (x :: l) = (if x.2 = 0 then 1 else 0) + opn l := rfl
    rw [List.map_cons]
    have op2 : opn (mtR K a g h later O x :: l.map (mtR K a g h later O)) = (if (mtR K a g h later O x).2 = 0 then 1 else 0) + opn (l.map (mtR K a g h later O)) := rfl
    by_cases c0 : x.2 = 0
    · -- open
      have tb : 0 ≤ x.1.1 * h ∧ x.1.1 * h ≤ 1000000 * 1000000 := ⟨Int.mul_nonneg x1 (by omega), Int.mul_le_mul x2 hh.2 (by omega) (by omega)⟩
      have hO2 : At (CE σ) (to + O1.length) O2 := by rw [hO12] at hOA; exact hOA.rt
      have lenO : (O.length : Int) = O1.length + O2.length := by rw [hO12, List.length_append]; omega
      obtain ⟨A, B, p1, p2, p3, p4⟩ := c_begun (N := N) (π := π) (rec9 := Rw_meetRow_9 N π n) (s := s) (to := to) (g := g) (h := h) (later := later) (met := met) (i := t0 + D.length) (t := x.1.1 * h) hg hla ⟨by omega, by omega⟩ (by omega) O2 N σ O1 (by omega) hO2 (by omega) h6 (fun o ho => by
        have := hOb o (by rw [hO12]; simp [ho])
        exact ⟨this.1, this.2.1⟩)
      have hQ : At (CE σ) to (O1 ++ A) := by
        rw [hO12, p1, ← List.append_assoc] at hOA
        exact hOA.l
      have lenA : (O2.length : Int) = A.length + B.length := by rw [p1, List.length_append]; omega
      obtain ⟨k', q1, q2⟩ := c_down (N := N) (π := π) (rec9 := Rw_meetRow_9 N π n) (s := s) (to := to) (g := g) (h := h) (later := later) (met := met) (begun := to + (O1.length + A.length)) (i := t0 + D.length) (t := x.1.1 * h) hg hla ⟨by omega, by omega⟩ (by omega) N (O1 ++ A) σ (by simp only [List.length_append]; omega) hQ (by simp only [List.length_append]; omega) (fun o ho => hOb o (by
        rw [hO12, p1]
        simp only [List.mem_append] at ho ⊢
        rcases ho with ho | ho
        · exact Or.inl ho
        · exact Or.inr (Or.inl ho)))
      -- what is found
      have lst : lstL (sou g h later (x.1.1 * h)) O = lstL (fun o => decide (x.1.1 * h < (o.1 + o.2.1 + later) * g)) (O1 ++ A) := by
        rw [hO12, p1, ← List.append_assoc, lstL_app (m := B)]
        · refine lstL_congr (fun o ho => ?_)
          unfold sou
          rw [decide_eq_decide]
          have : (o.1 + later) * g ≤ x.1.1 * h := by
            rcases List.mem_append.1 ho with ho | ho
            · exact hO1 o ho x (by simp)
            · exact p2 o ho
          constructor
          · exact fun k => k.2
          · exact fun k => ⟨this, k⟩
        · intro o ho
          unfold sou
          refine decide_eq_false (fun k => ?_)
          cases hB : B with
          | nil => rw [hB] at ho; cases ho
          | cons b B' =>
            have hb := p3 b B' hB
            have hsrt : Srt (b :: B') := by
              have : Srt (O1 ++ (A ++ B)) := by rw [← p1, ← hO12]; exact hO
              rw [← hB]
              exact (List.pairwise_append.1 (List.pairwise_append.1 this).2.1).2.1
            have hle : b.1 ≤ o.1 := by
              rw [hB] at ho
              rcases List.mem_cons.1 ho with rfl | ho
              · exact Int.le_refl _
              · exact (List.pairwise_cons.1 hsrt).1 o ho
            have := Int.mul_le_mul_of_nonneg_right (show b.1 + later ≤ o.1 + later by omega) (show 0 ≤ g by omega)
            omega
      have head : Rw_meetRow_9 N π (n + 1) σ s to g h later met (to + O1.length) (t0 + D.length) = Rw_meetRow_137 N π (Rw_meetRow_9 N π n) σ s to g h later met (to + (O1.length + A.length)) (t0 + D.length) k' := by
        rw [Rw_meetRow_9, grd_t (by exact ⟨by omega, by omega⟩), grd_t (by exact ⟨by omega, by omega⟩), if_pos (by omega), grd_t (by exact ⟨by omega, by omega⟩), cx.2, grd_t (by rw [c0]; decide), if_pos c0, bnd, cx.1.1, p4, Rw_meetRow_86, bnd]
        rw [show to + ((O1.length : Int) + A.length) - 1 = to + ((O1 ++ A).length : Int) - 1 by simp only [List.length_append]; omega]
        rw [q1]
      have nextO : ∀ o ∈ O1 ++ A, ∀ y ∈ l, (o.1 + later) * g ≤ y.1.1 * h := by
        intro o ho y hy
        have a1 := hp2.1 y hy
        have a2 := Int.mul_le_mul_of_nonneg_right a1 (show 0 ≤ h by omega)
        have a3 : (o.1 + later) * g ≤ x.1.1 * h := by
          rcases List.mem_append.1 ho with ho | ho
          · exact hO1 o ho x (by simp)
          · exact p2 o ho
        omega
      rcases q2 with ⟨k1, k2⟩ | ⟨o, k1, k2, k3, k4⟩
      · -- none sounds
        have mx : mtR K a g h later O x = x := by unfold mtR; rw [if_pos c0, lst, k2]
        obtain ⟨σ', z1, z2, z3, z4⟩ := c_meetRow (a := a) hN hs hg hh hla hO hOb ht0 l n σ (D ++ [x]) (O1 ++ A) B met (by omega) hK ha (by rw [List.append_assoc]; exact hA) (by rw [← kk]; omega) hOA hT h6 (by rw [hO12, p1, List.append_assoc]) nextO hp2.2 (fun y hy => hx y (by simp [hy]))
        refine ⟨σ', ?_, z2, fun b j hj => z3 b j (by rw [← kk]; omega), ?_⟩
        · rw [head, Rw_meetRow_137, grd_t (by exact ⟨by omega, by omega⟩), grd_t (by exact ⟨by omega, by omega⟩), if_pos (by omega), Rw_meetRow_155]
          rw [op1, op2, mx]
          rw [show met + ((if x.2 = 0 then 1 else 0) + opn l - ((if x.2 = 0 then 1 else 0) + opn (l.map (mtR K a g h later O)))) = met + (opn l - opn (l.map (mtR K a g h later O))) by omega]
          rw [← kk, List.length_append, show t0 + ((D.length : Int) + 1) = t0 + D.length + 1 by omega] at z1
          rw [show ((O1.length + A.length : Nat) : Int) = (O1.length : Int) + A.length by omega] at z1
          exact z1
        · rw [mx]
          rw [List.append_assoc] at z4
          exact z4
      · -- one sounds
        have lq : ((O1 ++ A).length : Int) = O1.length + A.length := by simp
        rw [lq] at k2
        obtain ⟨σ1, j1, j2, j3, j4⟩ := c_join (N := N) (π := π) (σ := σ) (s := s) (i := t0 + D.length) (k := k') (K := K) (a := a) (e := x.1) (o := o) hs hK ha ⟨by omega, by omega⟩ ⟨by omega, by omega⟩ (by omega) cx.1 k3
        have mx : mtR K a g h later O x = ((x.1.1, x.1.2.1, joiV K a x.1.2.2 o.2.2), if K = 24 ∧ louE o.2.2 = false then 2 else 1) := by unfold mtR; rw [if_pos c0, lst, k4]
        have mx2 : ¬ (mtR K a g h later O x).2 = 0 := by
          rw [mx]
          show ¬ (if K = 24 ∧ louE o.2.2 = false then 2 else 1 : Int) = 0
          split <;> decide
        have kk2 : (D.length : Int) + 1 = ((D ++ [mtR K a g h later O x]).length : Int) := by simp only [List.length_append, List.length_cons, List.length_nil]; omega
        obtain ⟨σ', z1, z2, z3, z4⟩ := c_meetRow (a := a) hN hs hg hh hla hO hOb ht0 l n σ1 (D ++ [mtR K a g h later O x]) (O1 ++ A) B (met + 1) (by omega) (by rw [j2]; exact hK) (by rw [j2]; exact ha) (by
          rw [List.append_assoc]
          refine At.app (CM.of (fun b j b1 b2 => j3 b j (by omega)) hA.l) ⟨by rw [mx]; exact j4, CM.of (fun b j b1 b2 => j3 b j (by omega)) cl⟩) (by rw [← kk2]; omega) (CE.of (fun b j b1 b2 => j3 b j (by omega)) hOA) (by rw [j2]; exact hT) (by rw [j2]; exact h6) (by rw [hO12, p1, List.append_assoc]) nextO hp2.2 (fun y hy => hx y (by simp [hy]))
        refine ⟨σ', ?_, fun f j => (z2 f j).trans (j2 f j), fun b j hj => ?_, ?_⟩
        · rw [head, Rw_meetRow_137, grd_t (by exact ⟨by omega, by omega⟩), grd_t (by exact ⟨by omega, by omega⟩), if_neg (by omega), j1, Option.bind_some, Rw_meetRow_155]
          rw [op1, op2, if_pos c0, if_neg mx2]
          rw [show met + (1 + opn l - (0 + opn (l.map (mtR K a g h later O)))) = met + 1 + (opn l - opn (l.map (mtR K a g h later O))) by omega]
          rw [← kk2, List.length_append, show t0 + ((D.length : Int) + 1) = t0 + D.length + 1 by omega] at z1
          rw [show ((O1.length + A.length : Nat) : Int) = (O1.length : Int) + A.length by omega] at z1
          exact z1
        · rw [z3 b j (by rw [← kk2]; omega), j3 b j (by omega)]
        · rw [List.append_assoc] at z4
          exact z4
    · have mx : mtR K a g h later O x = x := by unfold mtR; rw [if_neg c0]
      obtain ⟨σ', z1, z2, z3, z4⟩ := c_meetRow (a := a) hN hs hg hh hla hO hOb ht0 l n σ (D ++ [x]) O1 O2 met (by omega) hK ha (by rw [List.append_assoc]; exact hA) (by rw [← kk]; omega) hOA hT h6 hO12 (fun o ho y hy => hO1 o ho y (by simp [hy])) hp2.2 (fun y hy => hx y (by simp [hy]))
      refine ⟨σ', ?_, z2, fun b j hj => z3 b j (by rw [← kk]; omega), ?_⟩
      · rw [Rw_meetRow_9, grd_t (by exact ⟨by omega, by omega⟩), grd_t (by exact ⟨by omega, by omega⟩), if_pos (by omega), grd_t (by exact ⟨by omega, by omega⟩), cx.2, grd_t x3, if_neg c0, Rw_meetRow_155]
        rw [op1, op2, mx]
        rw [show met + ((if x.2 = 0 then 1 else 0) + opn l - ((if x.2 = 0 then 1 else 0) + opn (l.map (mtR K a g h later O)))) = met + (opn l - opn (l.map (mtR K a g h later O))) by omega]
        rw [← kk, show t0 + ((D.length : Int) + 1) = t0 + D.length + 1 by omega] at z1
        exact z1
      · rw [mx]
        rw [List.append_assoc] at z4
        exact z4
end CKa
