/-! rows of the reference: what sounds at an event -/
theorem RWd_zero {a b : Int} (h : RWd 0 a b) : a = 0 ∧ b = 0 := by
  obtain ⟨l, h1, h2, h3, h4, h5⟩ := h
  cases l with
  | nil => exact ⟨h4, h5⟩
  | cons x l =>
    exfalso
    have := h1.hd
    have w := wd8_0 h1.tl
    rw [wd8] at h3
    omega
/-- values of which the class has one, case by case -/
theorem VO.has {v : Vl} (h : VO v) : (v.2.2.2 = 1 ∧ v.2.2.1 = 0) ∨ (v.2.2.2 = 2 ∧ v.1 = 0 ∧ v.2.1 = 0) ∨ v.2.2.2 = 3 := by
  obtain ⟨w, h1, h2, h3, h4, h5, h6, h7, h8, h9⟩ := h
  by_cases c1 : v.2.2.2 = 1
  · exact Or.inl ⟨c1, by rw [← h4]; exact h9 c1⟩
  · by_cases c2 : v.2.2.2 = 2
    · have := h3.2 c2
      subst this
      exact Or.inr (Or.inl ⟨c2, RWd_zero h1⟩)
    · exact Or.inr (Or.inr (by omega))
/-- an event, and what sounds there if that is known -/
def MS (τ : St) (a : Int) (x : Evt × Option Vl) : Prop := RE τ a x.1 ∧ (match x.2 with
  | none => el τ 46 a = -1
  | some v => el τ 45 a = v.1 ∧ el τ 44 a = v.2.1 ∧ el τ 43 a = v.2.2.1 ∧ el τ 46 a = v.2.2.2)
theorem MS.of {τ τ' : St} {l : List (Evt × Option Vl)} {a : Int} (h : ∀ b j, a ≤ j → j < a + l.length → el τ' b j = el τ b j) (k : At (MS τ) a l) : At (MS τ') a l := k.mono (fun i e a1 a2 _ h1 => by
  unfold MS RE at h1 ⊢
  rw [h 52 i a1 a2, h 51 i a1 a2, h 50 i a1 a2, h 49 i a1 a2, h 48 i a1 a2, h 47 i a1 a2, h 46 i a1 a2, h 45 i a1 a2, h 44 i a1 a2, h 43 i a1 a2]
  exact h1)
section RN
variable {N : Nat} {τ0 : St} {d : Nat} {k p c : Int}
theorem r_loud {v : Vl} (h : VO v) : r_isLoud N v.2.2.2 v.2.2.1 = some (if louE v then 1 else 0) := by
  have hv := h.has
  obtain ⟨w, -, -, -, h4, h5, -⟩ := h
  have i1 : iand 1 1 = 1 := by decide
  have i2 : iand 2 1 = 0 := by decide
  have i3 : iand 3 1 = 1 := by decide
  unfold louE
  rcases hv with ⟨a, b⟩ | ⟨a, -⟩ | a
  · rw [r_isLoud, a, i1, grd_t (by decide), if_pos rfl, if_pos (decide_eq_true (Or.inl (by decide)))]; rfl
  · rw [r_isLoud, a, i2, grd_t (by decide), if_neg (by decide), grd_t (by decide), if_pos rfl, grd_t h5]
    by_cases c1 : v.2.2.1 = 0
    · rw [if_pos c1, if_neg (by rw [decide_eq_true_iff]; omega)]
    · rw [if_neg c1, if_pos (decide_eq_true (Or.inr c1))]; rfl
  · rw [r_isLoud, a, i3, grd_t (by decide), if_pos rfl, if_pos (decide_eq_true (Or.inl (by decide)))]; rfl
/-- what begins: those that are wanted, none met yet -/
theorem r_beg_lp {e : Int} (h : PR2 N τ0 d k p c e) : ∀ (l : List (Evt × Vl)) (f : Nat) (τ : St) (K : List (Evt × Option Vl)) (i : Int) (Pl : List Evt), l.length < f → TB τ0 τ → At (MS τ) e K → At (RM τ) i l → l.map Prod.fst = ab (c * gr τ0 p) Pl → (∀ x ∈ Pl, VO x.2.2) → e + K.length ≤ i → i + l.length = fl τ 84 0 → fl τ 84 0 ≤ 29999 → ∃ τ', r_beginSounds_15 N f τ p (e + K.length) i = some τ' ∧ RP e τ τ' ∧ fl τ' 84 0 = e + K.length + (if el τ0 70 p = 23 then Pl.filter (fun x => louE x.2.2) else Pl).length ∧ At (MS τ') e (K ++ (ab (c * gr τ0 p) (if el τ0 70 p = 23 then Pl.filter (fun x => louE x.2.2) else Pl)).map (fun x => (x, none)))
  | [], f + 1, τ, K, i, Pl, _, tb, hA, _, hPl, _, hi, h1, h2 => by
    have : Pl = [] := by
      cases Pl with
      | nil => rfl
      | cons x l => simp [ab] at hPl
    subst this
    simp only [List.length_nil] at h1
    obtain ⟨hHR, hT, hC, k0, k1, e0, e1, hN⟩ := id h
    have en : (if el τ0 70 p = 23 then ([] : List Evt).filter (fun x => louE x.2.2) else []) = [] := by split <;> rfl
    rw [en]
    refine ⟨sf τ 84 0 (e + K.length), ?_, ⟨fun f j hf => fl_sfn _ _ _ _ hf, fun _ _ _ => rfl, fun _ _ _ => rfl⟩, by rw [fl_sfs]; simp, ?_⟩
    · rw [r_beginSounds_15, grd_t (by exact ⟨by omega, by omega⟩), grd_t (by exact ⟨by omega, by omega⟩), if_neg (by omega)]
    · show At (MS τ) e (K ++ [])
      rw [List.append_nil]
      exact hA
  | x :: l, f + 1, τ, K, i, [], _, _, _, _, hPl, _, _, _, _ => by simp [ab] at hPl
  | x :: l, f + 1, τ, K, i, y :: Pl, hf, tb, hA, hl, hPl, hb, hi, h1, h2 => by
    obtain ⟨hHR, hT, hC, k0, k1, e0, e1, hN⟩ := id h
    have pp := hT.pos
    have kb : 1 ≤ el τ0 70 p ∧ el τ0 70 p ≤ 25 := by
      have := hT.2.2.2.2
      unfold NK at this
      omega
    simp only [List.length_cons] at h1 hf
    have hx : x.1 = (y.1 + c * gr τ0 p, y.1 + y.2.1 + c * gr τ0 p, y.2.2) ∧ l.map Prod.fst = ab (c * gr τ0 p) Pl := by
      unfold ab at hPl
      rw [List.map_cons, List.map_cons] at hPl
      injection hPl with u1 u2
      exact ⟨u1, u2⟩
    obtain ⟨ax, al⟩ := hl
    have vy := hb y (by simp)
    have e47 : el τ 47 i = y.2.2.2.2.2 := by rw [ax.1.2.2.2.2.2, hx.1]
    have e48 : el τ 48 i = y.2.2.2.2.1 := by rw [ax.1.2.2.2.2.1, hx.1]
    -- taking it
    have take : (∃ τ1, r_beginSounds_58 N (r_beginSounds_15 N f) τ p (e + K.length) i = r_beginSounds_15 N f τ1 p (e + (K ++ [(x.1, (none : Option Vl))]).length) (i + 1) ∧ RP e τ τ1 ∧ fl τ1 84 0 = fl τ 84 0 ∧ At (MS τ1) e (K ++ [(x.1, none)]) ∧ At (RM τ1) (i + 1) l) := by
      obtain ⟨τ1, p1, p2, p3, p4, p5⟩ := r_copied (N := N) (m := e) e0 (show e ≤ e + (K.length : Int) by omega) hi (by omega) ax
      have fr : ∀ b j, j ≠ e + K.length ∨ b ≠ 46 → el (se τ1 46 (e + K.length) (-1)) b j = el τ1 b j := fun b j hj => by rw [el_se, if_neg (by omega)]
      refine ⟨se τ1 46 (e + K.length) (-1), ?_, p3.tr (m' := e) ⟨fun _ _ _ => rfl, fun a j ha => fr a j (by omega), fun a j hj => fr a j (by omega)⟩ (Int.le_refl _), p2 84 0, At.snoc (MS.of (fun b j _ j2 => by rw [fr b j (by omega), p5 b j (by omega)]) hA) ⟨?_, el_ses _ _ _ _⟩, RM.of (fun b j j1 _ => by rw [fr b j (by omega), p5 b j (by omega)]) al⟩
      · rw [r_beginSounds_58, p1, Option.bind_some, grd_t (by exact ⟨by omega, by omega⟩), r_beginSounds_75]
        rw [show e + (K.length : Int) + 1 = e + ((K ++ [(x.1, (none : Option Vl))]).length : Int) by simp only [List.length_append, List.length_cons, List.length_nil]; omega]
      · have := p4.1
        unfold RE at this ⊢
        rw [fr _ _ (by omega), fr _ _ (by omega), fr _ _ (by omega), fr _ _ (by omega), fr _ _ (by omega), fr _ _ (by omega)]
        exact this
    have goTake : ∀ (Q : List Evt), r_beginSounds_15 N (f + 1) τ p (e + K.length) i = r_beginSounds_58 N (r_beginSounds_15 N f) τ p (e + K.length) i → (if el τ0 70 p = 23 then (y :: Pl).filter (fun x => louE x.2.2) else y :: Pl) = y :: (if el τ0 70 p = 23 then Pl.filter (fun x => louE x.2.2) else Pl) → ∃ τ', r_beginSounds_15 N (f + 1) τ p (e + K.length) i = some τ' ∧ RP e τ τ' ∧ fl τ' 84 0 = e + K.length + (if el τ0 70 p = 23 then (y :: Pl).filter (fun x => louE x.2.2) else y :: Pl).length ∧ At (MS τ') e (K ++ (ab (c * gr τ0 p) (if el τ0 70 p = 23 then (y :: Pl).filter (fun x => louE x.2.2) else y :: Pl)).map (fun x => (x, none))) := by
      intro Q hs hL
      obtain ⟨τ1, t1, t2, t3, t4, t5⟩ := take
      obtain ⟨τ2, z1, z2, z3, z4⟩ := r_beg_lp h l f τ1 (K ++ [(x.1, none)]) (i + 1) Pl (by omega) ((t2.rq (k := 0)).tb tb) t4 t5 hx.2 (fun w hw => hb w (by simp [hw])) (by simp only [List.length_append, List.length_cons, List.length_nil]; omega) (by rw [t3]; omega) (by rw [t3]; omega)
      rw [hL]
      refine ⟨τ2, by rw [hs, t1]; exact z1, t2.tr z2 (Int.le_refl _), ?_, ?_⟩
      · rw [z3]; simp only [List.length_append, List.length_cons, List.length_nil]; omega
      · rw [List.append_assoc] at z4
        have e1 : (ab (c * gr τ0 p) (y :: (if el τ0 70 p = 23 then Pl.filter (fun x => louE x.2.2) else Pl))).map (fun x => (x, (none : Option Vl))) = [(x.1, none)] ++ (ab (c * gr τ0 p) (if el τ0 70 p = 23 then Pl.filter (fun x => louE x.2.2) else Pl)).map (fun x => (x, none)) := by
          rw [hx.1]; rfl
        rw [e1]
        exact z4
    have hd : r_beginSounds_15 N (f + 1) τ p (e + K.length) i = if el τ0 70 p = 23 then (if louE y.2.2 then r_beginSounds_58 N (r_beginSounds_15 N f) τ p (e + K.length) i else r_beginSounds_15 N f τ p (e + K.length) (i + 1)) else r_beginSounds_58 N (r_beginSounds_15 N f) τ p (e + K.length) i := by
      rw [r_beginSounds_15, grd_t (by exact ⟨by omega, by omega⟩), grd_t (by exact ⟨by omega, by omega⟩), if_pos (by omega), grd_t (by exact ⟨by omega, by omega⟩), tb.1 70 _ (by decide), grd_t (by exact ⟨by omega, by omega⟩)]
      by_cases c1 : el τ0 70 p = 23
      · rw [if_pos c1, if_pos c1, grd_t (by exact ⟨by omega, by omega⟩), e47, e48, r_loud vy, Option.bind_some]
        cases louE y.2.2 with
        | true => rw [if_pos rfl, grd_t (by decide), if_neg (by decide), if_pos rfl]
        | false => rw [if_neg (by simp), grd_t (by decide), if_pos rfl, if_neg (by simp)]; rfl
      · rw [if_neg c1, if_neg c1]
    by_cases c1 : el τ0 70 p = 23
    · rw [if_pos c1] at hd
      cases hlo : louE y.2.2 with
      | true =>
        rw [hlo, if_pos rfl] at hd
        refine goTake [] hd ?_
        rw [if_pos c1, if_pos c1, List.filter_cons, hlo, if_pos rfl]
      | false =>
        rw [hlo, if_neg (by simp)] at hd
        obtain ⟨τ2, z1, z2, z3, z4⟩ := r_beg_lp h l f τ K (i + 1) Pl (by omega) tb hA al hx.2 (fun w hw => hb w (by simp [hw])) (by omega) (by omega) (by omega)
        have eL : (if el τ0 70 p = 23 then (y :: Pl).filter (fun x => louE x.2.2) else y :: Pl) = (if el τ0 70 p = 23 then Pl.filter (fun x => louE x.2.2) else Pl) := by
          rw [if_pos c1, if_pos c1, List.filter_cons, hlo, if_neg (by simp)]
        rw [eL]
        exact ⟨τ2, by rw [hd]; exact z1, z2, z3, z4⟩
    · rw [if_neg c1] at hd
      exact goTake [] hd (by rw [if_neg c1, if_neg c1])
/-- the last of the other that sounds -/
theorem r_last {rec53 : St → Int → Int → Int → Int → Int → Int → Option St} {g h later cg ch to i t j : Int} (hg : 1 ≤ g ∧ g ≤ 1000000) (hla : -100000000 ≤ later ∧ later ≤ 100000000) (ht : i64 t) (h0 : 0 ≤ to) (hlc : ∀ x : Int, x + j * h - ch = x + later) : ∀ (n : Nat) (O : List Evt) (τ : St), O.length < n → At (RE τ) to (ab (j * h) O) → to + O.length ≤ 29999 → (∀ o ∈ O, 0 ≤ o.1 ∧ o.1 ≤ 1000000 ∧ 0 ≤ o.2.1 ∧ o.2.1 ≤ 100000000) → ∃ k', r_find_96 N rec53 n τ g h cg ch to i t (to + O.length - 1) = r_find_145 N rec53 τ g h cg ch to i k' ∧ ((k' = to - 1 ∧ lstL (sou g h later t) O = none) ∨ (∃ x : Evt, to ≤ k' ∧ k' < to + O.length ∧ RE τ k' (x.1 + j * h, x.1 + x.2.1 + j * h, x.2.2) ∧ lstL (sou g h later t) O = some x.2.2)) := by
  intro n
  induction n with
  | zero => intro O τ hn; omega
  | succ n ih =>
    intro O τ hn ha h2 hb
    by_cases hq : O = []
    · subst hq
      simp only [List.length_nil] at h2 ⊢
      refine ⟨to - 1, ?_, Or.inl ⟨rfl, rfl⟩⟩
      rw [show to + ((0 : Nat) : Int) - 1 = to - 1 by omega, r_find_96, grd_t (by exact ⟨by omega, by omega⟩), grd_t (by exact ⟨by omega, by omega⟩), if_pos (by omega)]
    · obtain ⟨Q, x, rfl⟩ : ∃ Q x, O = Q ++ [x] := ⟨O.dropLast, O.getLast hq, (List.dropLast_concat_getLast hq).symm⟩
      have len : ((Q ++ [x]).length : Int) = Q.length + 1 := by simp
      rw [len] at h2 ⊢
      rw [ab_app] at ha
      have hx : RE τ (to + Q.length) (x.1 + j * h, x.1 + x.2.1 + j * h, x.2.2) := by
        have := ha.rt.1
        rw [ab_len] at this
        exact this
      obtain ⟨b1, b2, b3, b4⟩ := hb x (by simp)
      have m1 : -100000000 * g ≤ (x.1 + later) * g := Int.mul_le_mul_of_nonneg_right (by omega) (by omega)
      have m2 : (x.1 + later) * g ≤ 201000000 * g := Int.mul_le_mul_of_nonneg_right (by omega) (by omega)
      have m3 : -100000000 * g ≤ (x.1 + x.2.1 + later) * g := Int.mul_le_mul_of_nonneg_right (by omega) (by omega)
      have m4 : (x.1 + x.2.1 + later) * g ≤ 301000000 * g := Int.mul_le_mul_of_nonneg_right (by omega) (by omega)
      have st : r_find_96 N rec53 (n + 1) τ g h cg ch to i t (to + (Q.length + 1) - 1) = if (x.1 + later) * g ≤ t ∧ t < (x.1 + x.2.1 + later) * g then r_find_145 N rec53 τ g h cg ch to i (to + Q.length) else r_find_96 N rec53 n τ g h cg ch to i t (to + Q.length - 1) := by
        rw [show to + ((Q.length : Int) + 1) - 1 = to + Q.length by omega, r_find_96, grd_t (by exact ⟨by omega, by omega⟩), grd_t (by exact ⟨by omega, by omega⟩), if_neg (by omega), grd_t (by exact ⟨by omega, by omega⟩), hx.1, hx.2.1]
        simp only
        rw [hlc x.1, hlc (x.1 + x.2.1), grd_t (by exact ⟨by omega, by omega⟩), grd_t ht]
        by_cases c1 : t < (x.1 + later) * g
        · rw [if_pos c1, if_neg (by omega)]; rfl
        · rw [if_neg c1, grd_t (by exact ⟨by omega, by omega⟩)]
          by_cases c2 : t < (x.1 + x.2.1 + later) * g
          · rw [if_pos c2, if_pos ⟨by omega, c2⟩]
          · rw [if_neg c2, if_neg (by omega)]; rfl
      rw [st, lstL_snoc]
      by_cases c1 : (x.1 + later) * g ≤ t ∧ t < (x.1 + x.2.1 + later) * g
      · have hs : sou g h later t x = true := decide_eq_true c1
        rw [if_pos c1, if_pos hs]
        exact ⟨to + Q.length, rfl, Or.inr ⟨x, by omega, by omega, hx, rfl⟩⟩
      · have hs : ¬ sou g h later t x = true := fun k => c1 (of_decide_eq_true k)
        rw [if_neg c1, if_neg hs]
        obtain ⟨k', p1, p2⟩ := ih Q τ (by simp at hn; omega) ha.l (by omega) (fun o ho => hb o (by simp [ho]))
        refine ⟨k', p1, ?_⟩
        rcases p2 with p2 | ⟨y, y1, y2, y3, y4⟩
        · exact Or.inl p2
        · exact Or.inr ⟨y, y1, by omega, y3, y4⟩
/-- an event after a row of the other -/
def mtO (g h later : Int) (O : List Evt) (x : Evt × Option Vl) : Evt × Option Vl := (x.1, match x.2 with
  | some v => some v
  | none => lstL (sou g h later (x.1.1 * h)) O)
/-- a row of the other, found for those that are open; the list is told in times of its own -/
theorem r_find_lp {g h later cg ch to e j : Int} (hN : 300000 ≤ N) (hg : 1 ≤ g ∧ g ≤ 1000000) (hh : 1 ≤ h ∧ h ≤ 1000000) (hla : -100000000 ≤ later ∧ later ≤ 100000000) (hlc : ∀ x : Int, x + j * h - ch = x + later) {O : List Evt} (hOb : ∀ o ∈ O, (0 ≤ o.1 ∧ o.1 ≤ 1000000 ∧ 0 ≤ o.2.1 ∧ o.2.1 ≤ 100000000) ∧ VO o.2.2) (he : 0 ≤ e) : ∀ (l : List (Evt × Option Vl)) (n : Nat) (τ : St) (D : List (Evt × Option Vl)), l.length < n → At (MS τ) e ((D ++ l).map (fun x => ((x.1.1 + cg, x.1.1 + x.1.2.1 + cg, x.1.2.2), x.2))) → to = e + (D.length + l.length) → At (RE τ) to (ab (j * h) O) → fl τ 84 0 = to + O.length → fl τ 84 0 ≤ 29999 → (∀ x ∈ l, (0 ≤ x.1.1 ∧ x.1.1 ≤ 1000000) ∧ (∀ v, x.2 = some v → VO v)) → ∃ τ', r_find_53 N n τ g h cg ch to (e + D.length) = some τ' ∧ (∀ f i, fl τ' f i = fl τ f i) ∧ (∀ a i, a < 43 ∨ 46 < a ∨ i < e ∨ to ≤ i → el τ' a i = el τ a i) ∧ At (MS τ') e ((D ++ l.map (mtO g h later O)).map (fun x => ((x.1.1 + cg, x.1.1 + x.1.2.1 + cg, x.1.2.2), x.2)))
  | [], n + 1, τ, D, _, hA, hto, _, hT, h6, _ => by
    simp only [List.length_nil] at hto
    refine ⟨τ, ?_, fun _ _ => rfl, fun _ _ _ => rfl, hA⟩
    rw [r_find_53, grd_t (by exact ⟨by omega, by omega⟩), grd_t (by exact ⟨by omega, by omega⟩), if_neg (by omega)]
  | x :: l, n + 1, τ, D, hn, hA, hto, hOA, hT, h6, hx => by
    simp only [List.length_cons] at hto hn
    obtain ⟨⟨x1, x2⟩, x3⟩ := hx x (by simp)
    have tb : 0 ≤ x.1.1 * h ∧ x.1.1 * h ≤ 1000000 * 1000000 := ⟨Int.mul_nonneg x1 (by omega), Int.mul_le_mul x2 hh.2 (by omega) (by omega)⟩
    rw [List.map_append] at hA
    have cx := hA.rt
    rw [List.length_map, List.map_cons] at cx
    obtain ⟨cx, cl⟩ := cx
    have kk : (D.length : Int) + 1 = ((D ++ [mtO g h later O x]).length : Int) := by simp only [List.length_append, List.length_cons, List.length_nil]; omega
    -- what follows, from a state in which this one is told
    have next : ∀ τ1 : St, (∀ f i, fl τ1 f i = fl τ f i) → (∀ a i, a < 43 ∨ 46 < a ∨ i ≠ e + D.length → el τ1 a i = el τ a i) → MS τ1 (e + D.length) (((mtO g h later O x).1.1 + cg, (mtO g h later O x).1.1 + (mtO g h later O x).1.2.1 + cg, (mtO g h later O x).1.2.2), (mtO g h later O x).2) → ∃ τ', r_find_53 N n τ1 g h cg ch to (e + D.length + 1) = some τ' ∧ (∀ f i, fl τ' f i = fl τ f i) ∧ (∀ a i, a < 43 ∨ 46 < a ∨ i < e ∨ to ≤ i → el τ' a i = el τ a i) ∧ At (MS τ') e ((D ++ (x :: l).map (mtO g h later O)).map (fun x => ((x.1.1 + cg, x.1.1 + x.1.2.1 + cg, x.1.2.2), x.2))) := by
      intro τ1 f1 f2 f3
      obtain ⟨τ', z1, z2, z3, z4⟩ := r_find_lp hN hg hh hla hlc hOb he l n τ1 (D ++ [mtO g h later O x]) (by omega) (by
        rw [List.append_assoc, List.map_append]
        refine At.app (MS.of (fun b i i0 i1 => f2 b i (by rw [List.length_map] at i1; omega)) hA.l) ?_
        rw [List.length_map]
        exact ⟨f3, MS.of (fun b i i0 i1 => f2 b i (by omega)) cl⟩) (by rw [← kk]; omega) (RE.of (fun b i i0 i1 => f2 b i (by omega)) hOA) (by rw [f1]; exact hT) (by rw [f1]; exact h6) (fun y hy => hx y (by simp [hy]))
      rw [← kk, show e + ((D.length : Int) + 1) = e + D.length + 1 by omega] at z1
      refine ⟨τ', z1, fun f i => (z2 f i).trans (f1 f i), fun a i hi => (z3 a i hi).trans (f2 a i (by omega)), ?_⟩
      rw [List.append_assoc] at z4
      exact z4
    cases hx2 : x.2 with
    | some v =>
      have vv := x3 v hx2
      obtain ⟨w, -, -, -, -, -, -, v5, v6, -⟩ := vv
      have e46 : el τ (46 : Int) (e + D.length) = v.2.2.2 := by
        have := cx.2
        simp only [hx2] at this
        exact this.2.2.2
      have mx : mtO g h later O x = x := by
        unfold mtO
        rw [hx2]
        exact Prod.ext rfl hx2.symm
      obtain ⟨τ', z1, z2, z3, z4⟩ := next τ (fun _ _ => rfl) (fun _ _ _ => rfl) (by rw [mx]; exact cx)
      refine ⟨τ', ?_, z2, z3, z4⟩
      rw [r_find_53, grd_t (by exact ⟨by omega, by omega⟩), grd_t (by exact ⟨by omega, by omega⟩), if_pos (by omega), grd_t (by exact ⟨by omega, by omega⟩), e46, grd_t (by exact ⟨by omega, by omega⟩), if_neg (by omega), r_find_211]
      exact z1
    | none =>
      have e46 : el τ (46 : Int) (e + D.length) = -1 := by
        have := cx.2
        simp only [hx2] at this
        exact this
      have e52 : el τ 52 (e + D.length) = x.1.1 + cg := cx.1.1
      obtain ⟨k', p1, p2⟩ := r_last (N := N) (rec53 := r_find_53 N n) (g := g) (h := h) (later := later) (cg := cg) (ch := ch) (to := to) (i := e + D.length) (t := x.1.1 * h) (j := j) hg hla ⟨by omega, by omega⟩ (by omega) hlc N O τ (by omega) hOA (by omega) (fun o ho => (hOb o ho).1)
      have head : r_find_53 N (n + 1) τ g h cg ch to (e + D.length) = r_find_145 N (r_find_53 N n) τ g h cg ch to (e + D.length) k' := by
        rw [r_find_53, grd_t (by exact ⟨by omega, by omega⟩), grd_t (by exact ⟨by omega, by omega⟩), if_pos (by omega), grd_t (by exact ⟨by omega, by omega⟩), e46, grd_t (by decide), if_pos (by decide), bnd, e52, show x.1.1 + cg - cg = x.1.1 by omega, bnd, hT]
        exact p1
      rcases p2 with ⟨k1, k2⟩ | ⟨o, k1, k2, k3, k4⟩
      · have mx : mtO g h later O x = x := by
          unfold mtO
          rw [hx2]
          exact Prod.ext rfl (k2.trans hx2.symm)
        obtain ⟨τ', z1, z2, z3, z4⟩ := next τ (fun _ _ => rfl) (fun _ _ _ => rfl) (by rw [mx]; exact cx)
        refine ⟨τ', ?_, z2, z3, z4⟩
        rw [head, r_find_145, grd_t (by exact ⟨by omega, by omega⟩), grd_t (by exact ⟨by omega, by omega⟩), if_pos (by omega), r_find_211]
        exact z1
      · obtain ⟨o1, o2, o3, o4, o5, o6⟩ := k3
        simp only at o3 o4 o5 o6
        have mx : mtO g h later O x = (x.1, some o.2.2) := by
          unfold mtO
          rw [hx2]
          exact Prod.ext rfl k4
        have fr : ∀ a i, a < 43 ∨ 46 < a ∨ i ≠ e + D.length → el (se (se (se (se τ 46 (e + D.length) (el τ 47 k')) 45 (e + D.length) (el τ 50 k')) 44 (e + D.length) (el τ 49 k')) 43 (e + D.length) (el τ 48 k')) a i = el τ a i := fun a i hi => by
          simp only [el_se]
          rw [if_neg (by omega), if_neg (by omega), if_neg (by omega), if_neg (by omega)]
        obtain ⟨τ', z1, z2, z3, z4⟩ := next (se (se (se (se τ 46 (e + D.length) (el τ 47 k')) 45 (e + D.length) (el τ 50 k')) 44 (e + D.length) (el τ 49 k')) 43 (e + D.length) (el τ 48 k')) (fun _ _ => rfl) fr (by
          rw [mx]
          refine ⟨?_, ?_⟩
          · have := cx.1
            unfold RE at this ⊢
            rw [fr _ _ (by omega), fr _ _ (by omega), fr _ _ (by omega), fr _ _ (by omega), fr _ _ (by omega), fr _ _ (by omega)]
            exact this
          · simp only [el_se]
            exact ⟨o3, o4, o5, o6⟩)
        refine ⟨τ', ?_, z2, z3, z4⟩
        rw [head, r_find_145, grd_t (by exact ⟨by omega, by omega⟩), grd_t (by exact ⟨by omega, by omega⟩), if_neg (by omega), grd_t (by exact ⟨by omega, by omega⟩), grd_t (by exact ⟨by omega, by omega⟩), r_find_211]
        exact z1
end RN
