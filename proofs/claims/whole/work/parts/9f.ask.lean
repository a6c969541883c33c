/-! ask -/
theorem At.both {α : Type} {Q Q' : Int → α → Prop} : ∀ {l : List α} {a : Int}, At Q a l → At Q' a l → ∀ i, a ≤ i → i < a + l.length → ∃ e ∈ l, Q i e ∧ Q' i e
  | [], a, _, _, i, h0, h1 => by simp only [List.length_nil] at h1; omega
  | e :: l, a, h, k, i, h0, h1 => by
    by_cases c : i = a
    · subst c
      exact ⟨e, by simp, h.1, k.1⟩
    · simp only [List.length_cons] at h1
      obtain ⟨x, x1, x2⟩ := At.both h.2 k.2 i (by omega) (by omega)
      exact ⟨x, by simp [x1], x2⟩
/-- an event that the class keeps as asked -/
def AE (g : Int) (σ : St) (k : Int) (e : Evt) : Prop := el σ 27 k = e.1 ∧ el σ 28 k = e.2.1 ∧ el σ 29 k = g ∧ RV (el σ 30 k) (el σ 31 k) (el σ 32 k) e.2.2
/-- one that the reference keeps -/
def AR (τ : St) (k : Int) (e : Evt) : Prop := el τ 24 k = e.1 ∧ el τ 23 k = e.2.1 ∧ el τ 22 k = e.2.2.1 ∧ el τ 21 k = e.2.2.2.1 ∧ el τ 20 k = e.2.2.2.2.1 ∧ el τ 19 k = e.2.2.2.2.2
section AK
variable {N : Nat} {π : Sh}
theorem ca_lp {g t c : Int} {L : List Evt} (hS : SHs π) (hl : L.length ≤ 400) : ∀ (m n : Nat) (Q R : List Evt) (σ : St), Q.length = m → m < n → L = Q ++ R → At (CE σ) 0 L → fl σ 46 10 = L.length → fl σ 68 24 = 0 → At (AE g σ) Q.length R → ∃ σ', Ka_merge_29 N π n σ 10 g t c 0 (-1) (m - 1) (m - 1) = some σ' ∧ (∀ f i, f ≠ 68 ∨ i ≠ 24 → fl σ' f i = fl σ f i) ∧ fl σ' 68 24 = L.length ∧ (∀ a j, a < 25 ∨ 32 < a → el σ' a j = el σ a j) ∧ At (AE g σ') 0 L := by
  have hob : ob π 10 2 := hS.ob (i := 10) (by decide) rfl
  intro m
  induction m with
  | zero =>
    intro n Q R σ hQ hn hL hA h46 h68 hR
    cases n with
    | zero => omega
    | succ n =>
      have : Q = [] := List.length_eq_zero_iff.1 hQ
      subst this
      rw [List.nil_append] at hL
      subst hL
      refine ⟨sf σ 68 24 L.length, ?_, fun f i hf => ?_, fl_sfs _ _ _ _, fun _ _ _ => rfl, ?_⟩
      · rw [Ka_merge_29, grd_t (by decide), grd_t (by decide), if_pos (by decide), Ka_merge_142, grd_t hob, h68, h46, grd_t (by exact ⟨by omega, by omega⟩), show min (400 : Int) (0 + (L.length : Int)) = L.length by omega]
      · rw [fl_sf, if_neg (by omega)]
      · exact hR
  | succ m ih =>
    intro n Q R σ hQ hn hL hA h46 h68 hR
    cases n with
    | zero => omega
    | succ n =>
      have hne : Q ≠ [] := fun h => by rw [h] at hQ; simp at hQ
      obtain ⟨Q', x, rfl⟩ : ∃ Q' x, Q = Q' ++ [x] := ⟨Q.dropLast, Q.getLast hne, (List.dropLast_concat_getLast hne).symm⟩
      have hm : Q'.length = m := by simpa using hQ
      have hlL : L.length = m + 1 + R.length := by rw [hL, List.length_append, List.length_append, hm]; rfl
      have hx : CE σ (m : Int) x := by
        rw [hL] at hA
        have := hA.l.rt.1
        rw [hm, Int.zero_add] at this
        exact this
      have mz := hx.2.2.z
      obtain ⟨σ', z1, z2, z3, z4, z5⟩ := ih n Q' (x :: R) (se (se (se (se (se (se (se (se σ 27 m (el σ 11 m)) 28 m (el σ 12 m)) 30 m (el σ 13 m)) 31 m (el σ 14 m)) 32 m (el σ 15 m)) 29 m g) 25 m t) 26 m c) hm (by omega) (by rw [hL, List.append_assoc]; rfl) (hA.mono (fun i e _ _ _ he => by
          unfold CE at he ⊢
          simp only [el_se]
          exact he)) h46 h68 ⟨by
          rw [hm]
          unfold AE
          simp only [el_se]
          exact ⟨hx.1, hx.2.1, rfl, hx.2.2⟩, by
          rw [hm]
          rw [hQ] at hR
          rw [show ((m + 1 : Nat) : Int) = (m : Int) + 1 by omega] at hR
          refine hR.mono (fun i e i0 _ _ he => ?_)
          unfold AE at he ⊢
          simp only [el_se]
          rw [if_neg (by omega), if_neg (by omega), if_neg (by omega), if_neg (by omega), if_neg (by omega), if_neg (by omega), if_neg (by omega), if_neg (by omega), if_neg (by omega), if_neg (by omega), if_neg (by omega), if_neg (by omega), if_neg (by omega), if_neg (by omega), if_neg (by omega), if_neg (by omega), if_neg (by omega), if_neg (by omega), if_neg (by omega), if_neg (by omega), if_neg (by omega), if_neg (by omega), if_neg (by omega), if_neg (by omega), if_neg (by omega), if_neg (by omega), if_neg (by omega), if_neg (by omega), if_neg (by omega), if_neg (by omega), if_neg (by omega), if_neg (by omega), if_neg (by omega), if_neg (by omega), if_neg (by omega), if_neg (by omega), if_neg (by omega), if_neg (by omega), if_neg (by omega), if_neg (by omega), if_neg (by omega), if_neg (by omega), if_neg (by omega), if_neg (by omega), if_neg (by omega), if_neg (by omega), if_neg (by omega), if_neg (by omega)]
          exact he⟩
      refine ⟨σ', ?_, fun f i hf => (z2 f i hf).trans rfl, z3, fun a j ha => ?_, z5⟩
      · rw [show ((m + 1 : Nat) : Int) - 1 = m by omega, Ka_merge_29, grd_t (by exact ⟨by omega, by omega⟩), grd_t (by decide), if_neg (by omega), grd_t (by exact ⟨by omega, by omega⟩), if_neg (by omega), grd_t (by decide), if_pos (by decide), Ka_merge_90, Ka_take, grd_t (by exact ⟨by omega, by omega⟩), if_pos (by omega), grd_t hob, grd_t (by exact ⟨by omega, by omega⟩), grd_t (by exact ⟨by omega, by omega⟩), grd_t mz, Option.bind_some, grd_t (by exact ⟨by omega, by omega⟩), if_pos (by omega), grd_t (by exact ⟨by omega, by omega⟩), Ka_merge_133, Ka_merge_136]
        exact z1
      · rw [z4 a j ha]
        simp only [el_se]
        rw [if_neg (by omega), if_neg (by omega), if_neg (by omega), if_neg (by omega), if_neg (by omega), if_neg (by omega), if_neg (by omega), if_neg (by omega)]
theorem ra_lp {g c : Int} (hg : i32 g) (hc : i32 c) : ∀ (l : List Evt) (n : Nat) (τ : St) (K : List Evt), l.length < n → At (AR τ) 0 K → At (RE τ) K.length (ab (c * g) l) → fl τ 128 0 = g → fl τ 121 0 = K.length + l.length → K.length + l.length ≤ 400 → ∃ τ', r_ask_66 N n τ c K.length = some (τ', fl τ 121 0) ∧ (∀ f i, fl τ' f i = fl τ f i) ∧ (∀ a j, a < 19 ∨ 24 < a → el τ' a j = el τ a j) ∧ At (AR τ') 0 (K ++ l)
  | [], n + 1, τ, K, _, hK, _, h128, h121, h4 => by
    simp only [List.length_nil] at h121 h4
    refine ⟨τ, ?_, fun _ _ => rfl, fun _ _ _ => rfl, by rw [List.append_nil]; exact hK⟩
    rw [r_ask_66, grd_t (by exact ⟨by omega, by omega⟩), grd_t (by exact ⟨by omega, by omega⟩), if_neg (by omega)]
  | x :: l, n + 1, τ, K, hn, hK, hl, h128, h121, h4 => by
    simp only [List.length_cons] at h121 h4 hn
    obtain ⟨⟨x1, x2, x3, x4, x5, x6⟩, xl⟩ := hl
    simp only at x1 x2 x3 x4 x5 x6
    have kk : ((K ++ [x]).length : Int) = K.length + 1 := by simp
    have fr : ∀ a j : Int, a < 19 ∨ 24 < a ∨ j ≠ K.length → el (se (se (se (se (se (se τ 24 K.length (el τ 52 K.length - c * g)) 23 K.length (el τ 51 K.length - el τ 52 K.length)) 22 K.length (el τ 50 K.length)) 21 K.length (el τ 49 K.length)) 20 K.length (el τ 48 K.length)) 19 K.length (el τ 47 K.length)) a j = el τ a j := fun a j ha => by
      simp only [el_se]
      rw [if_neg (by omega), if_neg (by omega), if_neg (by omega), if_neg (by omega), if_neg (by omega), if_neg (by omega)]
    obtain ⟨τ', z1, z2, z3, z4⟩ := ra_lp hg hc l n (se (se (se (se (se (se τ 24 K.length (el τ 52 K.length - c * g)) 23 K.length (el τ 51 K.length - el τ 52 K.length)) 22 K.length (el τ 50 K.length)) 21 K.length (el τ 49 K.length)) 20 K.length (el τ 48 K.length)) 19 K.length (el τ 47 K.length)) (K ++ [x]) (by omega) (At.snoc (hK.mono (fun i e _ i1 _ he => by
        unfold AR at he ⊢
        rw [fr _ _ (by omega), fr _ _ (by omega), fr _ _ (by omega), fr _ _ (by omega), fr _ _ (by omega), fr _ _ (by omega)]
        exact he)) (by
        rw [Int.zero_add]
        unfold AR
        simp only [el_se]
        refine ⟨?_, ?_, x3, x4, x5, x6⟩
        · show el τ 52 K.length - c * g = x.1
          omega
        · show el τ 51 K.length - el τ 52 K.length = x.2.1
          omega)) (by
        rw [kk]
        exact RE.of (fun b j j0 _ => fr b j (by omega)) xl) h128 (by rw [kk]; show fl τ 121 0 = _; omega) (by simp; omega)
    refine ⟨τ', ?_, z2, fun a j ha => by rw [z3 a j ha, fr a j (by omega)], ?_⟩
    · rw [r_ask_66, grd_t (by exact ⟨by omega, by omega⟩), grd_t (by exact ⟨by omega, by omega⟩), if_pos (by omega), grd_t (by exact ⟨by omega, by omega⟩), grd_t hc, h128, grd_t hg, grd_t (by exact ⟨by omega, by omega⟩)]
      rw [kk] at z1
      exact z1
    · rw [List.append_assoc] at z4
      exact z4
/-- kept values -/
theorem RV.kept {w n b : Int} {v : Vl} (h : RV w n b v) : RWd w v.1 v.2.1 ∧ (0 ≤ v.2.2.2 ∧ v.2.2.2 ≤ 3 ∧ b = v.2.2.2 / 2 ∧ n = (if 2 ≤ v.2.2.2 then v.2.2.1 else 0) ∧ i32 v.2.2.1) := by
  obtain ⟨h1, h2, h3, h4, h5, h6, h7, h8, h9⟩ := h
  refine ⟨h1, by omega, h8, h6, ?_, by rw [← h4]; exact h5⟩
  split
  · exact h4
  · exact h9 (by omega)
variable {DR : DRt} {n : Nat}
theorem r_ask0 {τ : St} {x1 x2 : Int} (i1 : i32 x1) (i2 : i32 x2) : r_ask N τ x1 x2 = if 0 ≤ x1 ∧ x1 < 8 then (if -1000 ≤ x2 ∧ x2 ≤ 100000 then grd (i32 (el τ 28 x1)) (if el τ 28 x1 = -1 then some (τ, -1) else Option.bind (r_rowOf N τ (el τ 28 x1) x2) (fun r13 => grd (inb (el τ 28 x1) 103000) (r_ask_66 N N (sf (sf r13 121 0 (fl r13 84 0)) 128 0 (el r13 63 (el τ 28 x1))) x2 0))) else some (τ, -1)) else some (τ, -1) := by
  rw [r_ask, rr_track i1, Option.bind_some]
  by_cases c : 0 ≤ x1 ∧ x1 < 8
  · rw [if_pos c, if_pos c]
    show grd (i32 (1 : Int)) (if (1 : Int) = 0 then _ else _) = _
    rw [grd_t (by decide), if_neg (by decide), grd_t i2]
    by_cases d : -1000 ≤ x2 ∧ x2 ≤ 100000
    · rw [if_pos d, if_neg (by omega), if_neg (by omega), grd_t (by exact c), bnd]
    · rw [if_neg d]
      by_cases e : x2 < -1000
      · rw [if_pos e]
      · rw [if_neg e, if_pos (by omega)]
  · rw [if_neg c, if_neg c]
    show grd (i32 (0 : Int)) (if (0 : Int) = 0 then _ else _) = _
    rw [grd_t (by decide), if_pos rfl]
theorem c_ask0 {σ : St} {x1 x2 : Int} (i1 : i32 x1) (i2 : i32 x2) : Cs_ask N π σ x1 x2 = if 0 ≤ x1 ∧ x1 < 8 then (if el σ 51 x1 < 0 then some (σ, -1) else if -1000 ≤ x2 ∧ x2 ≤ 100000 then Option.bind (Rw_workOut N π σ (el σ 51 x1) x2) (fun r12 => grd (ob π (el σ 51 x1) 5) (Option.bind (Ka_merge N π (sf r12 68 24 0) 10 (fl r12 102 (el σ 51 x1)) x1 x2 0) (fun r20 => some (r20, (fl r20 68 24))))) else some (σ, -1)) else some (σ, -1) := by
  rw [Cs_ask, cs_track i1, Option.bind_some]
  by_cases c : 0 ≤ x1 ∧ x1 < 8
  · rw [if_pos c, if_pos c, grd_t (by decide), if_neg (by decide), grd_t (by exact c)]
    by_cases d : el σ 51 x1 < 0
    · rw [if_pos d, if_pos d]
    · rw [if_neg d, if_neg d, grd_t i2]
      by_cases e : -1000 ≤ x2 ∧ x2 ≤ 100000
      · rw [if_pos e, if_neg (by omega), if_neg (by omega), bnd]
        rfl
      · rw [if_neg e]
        by_cases g : x2 < -1000
        · rw [if_pos g]
        · rw [if_neg g, if_pos (by omega)]
  · rw [if_neg c, if_neg c, grd_t (by decide), if_pos rfl]
theorem st_ask (hB : Big N) (hI : Inn PRn DR) (hn : n < 512) : St_ask N (RO PRn DR RWd n) (RO PRn DR RWd (n + 1)) := by
  intro π σ τ x1 x2 h i1 i2
  obtain ⟨h1, h2, h3, h4, h5, h6, h7, h8⟩ := id h
  have hN := hB.n
  rw [c_ask0 i1 i2, r_ask0 i1 i2]
  by_cases ct : 0 ≤ x1 ∧ x1 < 8
  · rw [if_pos ct, if_pos ct]
    obtain ⟨hp, -⟩ := h5 x1 ct.1 ct.2
    by_cases ce : el σ 51 x1 = -1
    · have cp : el τ 28 x1 = -1 := by
        rcases hp.b with hp | ⟨hp, -⟩
        · exact hp.2
        · rw [ce] at hp
          exact absurd hp.1 (by decide)
      refine ⟨σ, τ, -1, by rw [if_pos (by omega)], ?_, h.up hI hn⟩
      rw [cp, grd_t (by decide), if_pos rfl]
      split <;> rfl
    · have hpb : ob π (el σ 51 x1) 5 ∧ 0 ≤ el τ 28 x1 ∧ el τ 28 x1 < 103000 ∧ fl σ 102 (el σ 51 x1) = el τ 63 (el τ 28 x1) ∧ (1 ≤ gr τ (el τ 28 x1) ∧ gr τ (el τ 28 x1) ≤ 1000000) ∧ cw τ (el τ 28 x1) ≤ 400 ∧ rc τ (el τ 28 x1) ≤ 64 := by
        rcases hp.b with hq | ⟨q1, q2, q3, ⟨q4, q5, q6⟩, ⟨-, -, q7⟩, ⟨-, -, q8⟩, -⟩
        · exact absurd hq.1 ce
        · exact ⟨q1, q2, q3, q4, ⟨q5, q6⟩, q7, q8⟩
      obtain ⟨p1, p2, p3, p4, ⟨p5, p6⟩, p7, p8⟩ := hpb
      have r0 := p1.1
      rw [if_neg (show ¬ el σ 51 x1 < 0 by omega), grd_t (by exact ⟨by omega, by omega⟩), if_neg (show ¬ el τ 28 x1 = -1 by omega)]
      by_cases cr : -1000 ≤ x2 ∧ x2 ≤ 100000
      · rw [if_pos cr, if_pos cr]
        obtain ⟨⟨m1, m2⟩, m3, ⟨m4, m5, m6⟩, m7⟩ := id h3
        obtain ⟨L, gL, ⟨σ1, a1, a2, a3, a4⟩, ⟨τ1, b1, b2, b3, b4, b5⟩⟩ := both_row hB h1.1 hp ce m6 ⟨m4, m5⟩ cr
        have gl := gL.1
        have hob : ob π 10 2 := h1.1.ob (i := 10) (by decide) rfl
        -- class
        have e68 : fl (sf σ1 68 24 0) 68 24 = 0 := fl_sfs _ _ _ _
        have e46 : fl (sf σ1 68 24 0) 46 10 = L.length := by rw [fl_sfn _ _ _ _ (by decide)]; exact a3
        obtain ⟨σ2, u1, u2, u3, u4, u5⟩ := ca_lp (N := N) (g := gr τ (el τ 28 x1)) (t := x1) (c := x2) (L := L) h1.1 (by omega) L.length N L [] (sf σ1 68 24 0) rfl (by omega) (by simp) a4 e46 e68 trivial
        have f102 : fl σ1 102 (el σ 51 x1) = gr τ (el τ 28 x1) := by
          rw [a2.1 102 _ (by decide) (by decide) (by decide), fl_sfn _ _ _ _ (by decide)]
          exact p4
        have k1 : Cs_ask N π σ x1 x2 = some (σ2, fl σ2 68 24) := by
          rw [c_ask0 i1 i2, if_pos ct, if_neg (by omega), if_pos cr, a1, Option.bind_some, grd_t p1, f102, Ka_merge, e68, bnd, grd_t hob, e46, bnd, bnd, show (0 : Int) + (L.length : Int) - 1 = L.length - 1 by omega, show (0 : Int) - 1 = -1 by omega, u1, Option.bind_some]
        have k1' := k1
        rw [c_ask0 i1 i2, if_pos ct, if_neg (by omega), if_pos cr] at k1'
        -- reference
        have e63 : el τ1 63 (el τ 28 x1) = gr τ (el τ 28 x1) := b3 63 _ (by omega)
        obtain ⟨τ2, v1, v2, v3, v4⟩ := ra_lp (N := N) (g := gr τ (el τ 28 x1)) (c := x2) ⟨by omega, by omega⟩ i2 L N (sf (sf τ1 121 0 (fl τ1 84 0)) 128 0 (gr τ (el τ 28 x1))) [] (by omega) trivial b5 (fl_sfs _ _ _ _) (by rw [fl_sfn _ _ _ _ (by decide), fl_sfs, b4]; simp) (by simp; omega)
        have e121 : fl (sf (sf τ1 121 0 (fl τ1 84 0)) 128 0 (gr τ (el τ 28 x1))) 121 0 = L.length := by rw [fl_sfn _ _ _ _ (by decide), fl_sfs, b4]
        rw [e121] at v1
        rw [List.nil_append] at v4
        refine ⟨σ2, τ2, L.length, ?_, ?_, ?_⟩
        · rw [k1', u3]
        · rw [b1, Option.bind_some, grd_t (by exact ⟨p2, p3⟩), e63]
          exact v1
        · have cf : ∀ f i, f ≠ 46 → f ≠ 52 → f ≠ 53 → f ≠ 68 ∨ i ≠ 24 → fl σ2 f i = fl σ f i := fun f i x y z w => by
            rw [u2 f i w, fl_sf, if_neg (by omega), a2.1 f i x y z, fl_sfn _ _ _ _ x]
          have ca : ∀ a j, a < 11 ∨ 32 < a ∨ a = 24 → el σ2 a j = el σ a j := fun a j ha => by
            rw [u4 a j (by omega), el_sf, a2.2.2.1 a j (by omega), el_sf]
          have rf : ∀ f i, f ≠ 84 → f ≠ 96 → f ≠ 121 → f ≠ 128 → fl τ2 f i = fl τ f i := fun f i x y z w => by
            rw [v2, fl_sfn _ _ _ _ w, fl_sfn _ _ _ _ z, b2 f i x y]
          have ra : ∀ a j, a < 19 ∨ (24 < a ∧ a < 29) ∨ 52 < a → el τ2 a j = el τ a j := fun a j ha => by
            rw [v3 a j (by omega), el_sf, el_sf, b3 a j (by omega)]
          refine h.mk hI hn (km_Cs_ask h1 k1) ⟨fun f i hf => cf f i (by unfold inF at hf; omega) (by unfold inF at hf; omega) (by unfold inF at hf; omega) (by unfold inF at hf; omega), fun a j ha => ca a j (by omega)⟩ ⟨fun f hf => rf f 0 (by unfold inR at hf; omega) (by unfold inR at hf; omega) (by unfold inR at hf; omega) (by unfold inR at hf; omega), fun a j ha => ra a j (by unfold inA at ha; omega)⟩ ?_ ?_ ?_ ?_ ?_ ?_ ?_ (by rw [rf 1 0 (by decide) (by decide) (by decide) (by decide)]; omega)
          · exact h2.stl (cf _ _ (by decide) (by decide) (by decide) (by decide)) (rf _ _ (by decide) (by decide) (by decide) (by decide)) (fun j => ca 2 j (by omega)) (fun j => ra 97 j (by omega))
          · obtain ⟨n1, n2, n3, n4⟩ := h3.up
            unfold RTm
            rw [cf 253 0 (by decide) (by decide) (by decide) (by decide), cf 254 0 (by decide) (by decide) (by decide) (by decide), cf 161 9 (by decide) (by decide) (by decide) (by decide), cf 255 0 (by decide) (by decide) (by decide) (by decide), cf 256 0 (by decide) (by decide) (by decide) (by decide), cf 257 0 (by decide) (by decide) (by decide) (by decide), cf 258 0 (by decide) (by decide) (by decide) (by decide), rf 115 0 (by decide) (by decide) (by decide) (by decide), rf 116 0 (by decide) (by decide) (by decide) (by decide), rf 117 0 (by decide) (by decide) (by decide) (by decide), rf 95 0 (by decide) (by decide) (by decide) (by decide), rf 118 0 (by decide) (by decide) (by decide) (by decide), rf 119 0 (by decide) (by decide) (by decide) (by decide), rf 120 0 (by decide) (by decide) (by decide) (by decide)]
            refine ⟨n1, n2, ⟨n3.1, n3.2.1, ?_⟩, n4⟩
            have ky : KY σ1 := a2.2.1 (by
              unfold KY
              rw [fl_sfn _ _ _ _ (by decide), fl_sfn _ _ _ _ (by decide)]
              exact m6)
            unfold KY at ky ⊢
            rw [u2 52 10 (by decide), u2 53 10 (by decide), fl_sfn _ _ _ _ (by decide), fl_sfn _ _ _ _ (by decide)]
            exact ky
          · exact h4.stl (fun j => ca 54 j (by omega)) (fun j => ca 55 j (by omega)) (fun j => ra 26 j (by omega)) (fun j => ra 25 j (by omega))
          · exact fun t _ _ => ⟨ca 51 t (by omega), ca 52 t (by omega), ca 53 t (by omega), ra 27 t (by omega), ra 28 t (by omega)⟩
          · exact rf 116 0 (by decide) (by decide) (by decide) (by decide)
          · have f121 : fl τ2 121 0 = L.length := by rw [v2]; exact e121
            have f128 : fl τ2 128 0 = gr τ (el τ 28 x1) := by rw [v2]; exact fl_sfs _ _ _ _
            refine ⟨by rw [u3, f121], by omega, by omega, fun _ => by omega, by omega, fun k k0 k1 => ?_⟩
            obtain ⟨e, he, ⟨s1, s2, s3, s4⟩, ⟨t1, t2, t3, t4, t5, t6⟩⟩ := At.both u5 v4 k k0 (by omega)
            obtain ⟨⟨w1, w2⟩, ⟨w3, w4⟩, -⟩ := gL.2.1 e he
            have rb : rc τ (el τ 28 x1) * gr τ (el τ 28 x1) ≤ 64 * 1000000 := Int.mul_le_mul p8 p6 (by omega) (by omega)
            obtain ⟨y1, y2⟩ := s4.kept
            rw [s1, s2, s3, t1, t2, t3, t4, t5, t6, f128]
            exact ⟨⟨rfl, w1, w2⟩, ⟨rfl, w3, by omega⟩, rfl, y1, y2⟩
          · exact h7.stl (cf 68 33 (by decide) (by decide) (by decide) (by decide)) (rf _ _ (by decide) (by decide) (by decide) (by decide)) (fun a j x y => ca a j (by omega)) (fun a j x y => ra a j (by omega))
      · rw [if_neg cr, if_neg cr]
        exact ⟨σ, τ, -1, rfl, rfl, h.up hI hn⟩
  · rw [if_neg ct, if_neg ct]
    exact ⟨σ, τ, -1, rfl, rfl, h.up hI hn⟩
end AK
