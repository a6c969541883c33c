/-! rows of the class: structures, masks, operators to their ends -/
theorem fndL_snoc {R : Int → List Evt} {g h t c : Int} : ∀ (k : Nat) (j : Int), fndL R g h t c (k + 1) j = match fndL R g h t c k j with
    | some v => some v
    | none => lstL (sou g h ((j - k - c) * h) t) (R (j - k))
  | 0, j => by
    rw [fndL, fndL, fndL]
    simp only [show j - ((0 : Nat) : Int) = j by omega]
    show (match lstL (sou g h ((j - c) * h) t) (R j) with
      | some v => some v
      | none => none) = lstL (sou g h ((j - c) * h) t) (R j)
    cases lstL (sou g h ((j - c) * h) t) (R j) <;> rfl
  | k + 1, j => by
    rw [fndL, fndL_snoc k (j - 1), fndL]
    cases h1 : lstL (fun e => decide ((e.1 + (j - c) * h) * g ≤ t ∧ t < (e.1 + e.2.1 + (j - c) * h) * g)) (R j) with
    | some v => rfl
    | none =>
      simp only
      rw [show j - 1 - (k : Int) = j - ((k + 1 : Nat) : Int) by omega]
theorem fndL_mono {R : Int → List Evt} {g h t c j : Int} {v : Vl} : ∀ (m k : Nat), fndL R g h t c k j = some v → fndL R g h t c (k + m) j = some v
  | 0, _, h => h
  | m + 1, k, h => by
    rw [show k + (m + 1) = (k + m) + 1 by omega, fndL_snoc, fndL_mono m k h]
def stF (K a : Int) (o : Option Vl) (e : Evt) : Evt × Int := match o with
  | some s => ((e.1, e.2.1, joiV K a e.2.2 s), if K = 24 ∧ louE s = false then 2 else 1)
  | none => (e, 0)
theorem stF_b (K a : Int) (o : Option Vl) (e : Evt) : (stF K a o e).1.1 = e.1 ∧ ((stF K a o e).2 = 0 ∨ (stF K a o e).2 = 1 ∨ (stF K a o e).2 = 2) ∧ ((stF K a o e).2 = 0 ↔ o = none) := by
  cases o with
  | none => exact ⟨rfl, Or.inl rfl, ⟨fun _ => rfl, fun _ => rfl⟩⟩
  | some s =>
    refine ⟨rfl, ?_, ⟨fun h => ?_, fun h => by cases h⟩⟩
    · show (if K = 24 ∧ louE s = false then 2 else 1 : Int) = 0 ∨ (if K = 24 ∧ louE s = false then 2 else 1 : Int) = 1 ∨ (if K = 24 ∧ louE s = false then 2 else 1 : Int) = 2
      by_cases c : K = 24 ∧ louE s = false
      · rw [if_pos c]; simp
      · rw [if_neg c]; simp
    · have h : (if K = 24 ∧ louE s = false then 2 else 1 : Int) = 0 := h
      split at h <;> omega
theorem mtR_stF {K a g h c : Int} {R : Int → List Evt} {k : Nat} (e : Evt) : mtR K a g h ((c - k - c) * h) (R (c - k)) (stF K a (fndL R g h (e.1 * h) c k c) e) = stF K a (fndL R g h (e.1 * h) c (k + 1) c) e := by
  rw [fndL_snoc]
  cases h1 : fndL R g h (e.1 * h) c k c with
  | some v =>
    have := (stF_b K a (some v) e).2.2
    unfold mtR
    rw [if_neg (fun k => by have := this.1 k; cases this)]
  | none =>
    unfold mtR
    rw [if_pos ((stF_b K a none e).2.2.2 rfl)]
    show (match lstL (sou g h ((c - k - c) * h) (e.1 * h)) (R (c - k)) with
      | some s => ((e.1, e.2.1, joiV K a e.2.2 s), if K = 24 ∧ louE s = false then 2 else 1)
      | none => (e, 0)) = stF K a (lstL (sou g h ((c - k - c) * h) (e.1 * h)) (R (c - k))) e
    cases lstL (sou g h ((c - k - c) * h) (e.1 * h)) (R (c - k)) <;> rfl
theorem opn_z : ∀ {l : List (Evt × Int)}, opn l ≤ 0 → ∀ x ∈ l, x.2 ≠ 0
  | [], _, _, h => by cases h
  | y :: l, h, x, hx => by
    have nn : ∀ l : List (Evt × Int), 0 ≤ opn l := by
      intro l
      induction l with
      | nil => exact Int.le_refl _
      | cons y l ih => rw [opn]; split <;> omega
    have := nn l
    rw [opn] at h
    rcases List.mem_cons.1 hx with rfl | hx
    · intro k
      rw [if_pos k] at h
      omega
    · exact opn_z (by split at h <;> omega) x hx
theorem meeL_st {K a : Int} {f : Int → Option Vl} : ∀ (l : List Evt), meeL K a f l = ((l.map (fun e => stF K a (f e.1) e)).filter (fun x => decide (x.2 = 1 ∨ (K = 25 ∧ x.2 = 0)))).map Prod.fst
  | [] => rfl
  | e :: l => by
    rw [meeL, meeL_st l, List.map_cons, List.filter_cons]
    cases h1 : f e.1 with
    | none =>
      show (if K = 25 then [e] else []) ++ _ = List.map Prod.fst (if decide ((0 : Int) = 1 ∨ (K = 25 ∧ (0 : Int) = 0)) = true then (e, 0) :: _ else _)
      by_cases c : K = 25
      · rw [if_pos c, if_pos (decide_eq_true (Or.inr ⟨c, rfl⟩))]; rfl
      · rw [if_neg c, if_neg (by rw [decide_eq_true_iff]; omega)]; rfl
    | some s =>
      show (if K = 24 ∧ louE s = false then [] else [(e.1, e.2.1, joiV K a e.2.2 s)]) ++ _ = List.map Prod.fst (if decide ((if K = 24 ∧ louE s = false then 2 else 1 : Int) = 1 ∨ (K = 25 ∧ (if K = 24 ∧ louE s = false then 2 else 1 : Int) = 0)) = true then ((e.1, e.2.1, joiV K a e.2.2 s), _) :: _ else _)
      by_cases c : K = 24 ∧ louE s = false
      · rw [if_pos c, if_pos c, if_neg (by rw [decide_eq_true_iff]; omega)]; rfl
      · rw [if_neg c, if_neg c, if_pos (decide_eq_true (Or.inl rfl))]; rfl
section CKb
variable {N : Nat} {π : Sh} {τ : St} {d : Nat} {σ : St} {r p c : Int}
/-- the rows of the other, one before the other -/
theorem ck_meet117 (h : PH N π τ d σ r p c) {im io : Int} (h01 : (im = 0 ∧ io = 1) ∨ (im = 1 ∧ io = 0)) (hn : NK23 τ p (kd τ p im) (kd τ p io)) {K kk a : Int} (hK : (K = 23 ∧ fl σ 200 (fl σ 100 r) = 19) ∨ (K = 24 ∧ fl σ 200 (fl σ 100 r) = 20) ∨ (K = 25 ∧ fl σ 200 (fl σ 100 r) = 21)) (ha : K = 25 → fl σ 202 (fl σ 100 r) = a ∧ i32 a) {M : List Evt} (hM : Gd 0 (gr τ p) (rc τ p * gr τ p) M) (hMl : (M.length : Int) ≤ cw τ (kd τ p im)) : ∀ (m n : Nat) (k : Nat) (σ1 : St), m < n → (k + m : Int) = rc τ (kd τ p io) + 1 → EF (fl σ 46 10) σ σ1 → fl σ1 46 10 = fl σ 46 10 + M.length → At (CM σ1) (fl σ 46 10) (M.map (fun e => stF K a (fndL (rowL τ d (kd τ p io)) (gr τ p) (gr τ (kd τ p io)) (e.1 * gr τ (kd τ p io)) c k c) e)) → ∃ σ', Rw_meet_117 N (Rw_rowC N d) π n σ1 r c (el σ (fl σ 101 r) im) (el σ (fl σ 101 r) io) kk (fl σ 46 10) (fl σ 46 10 + M.length) (opn (M.map (fun e => stF K a (fndL (rowL τ d (kd τ p io)) (gr τ p) (gr τ (kd τ p io)) (e.1 * gr τ (kd τ p io)) c k c) e))) (c - k) = Rw_meet_198 N (Rw_rowC N d) π σ' kk (fl σ 46 10) ∧ EF (fl σ 46 10) σ σ' ∧ fl σ' 46 10 = fl σ 46 10 + M.length ∧ At (CM σ') (fl σ 46 10) (M.map (fun e => stF K a (fndL (rowL τ d (kd τ p io)) (gr τ p) (gr τ (kd τ p io)) (e.1 * gr τ (kd τ p io)) c (rc τ (kd τ p io) + 1).toNat c) e))
  | 0, n + 1, k, σ1, _, hk, hE, hT, hA => by
    obtain ⟨n1, n2, n3, n4⟩ := id hn
    have cb := h.2.2.2.1.abs h.2.2.1.2.1
    obtain ⟨⟨a1, a2, a3, a4⟩, a5, a6, a7, a8, a9, a10⟩ := h.at hE
    obtain ⟨c1, c2, c3, c4⟩ := a8 io (by omega) (by omega)
    have rb := (h.kn (i := io) (by omega) (by omega)).2.2.2.1
    refine ⟨σ1, ?_, hE, hT, ?_⟩
    · rw [Rw_meet_117, grd_t c2, grd_t (by exact ⟨by omega, by omega⟩), c4, grd_t (by exact ⟨by omega, by omega⟩), if_pos (by omega)]
    · rw [show (rc τ (kd τ p io) + 1).toNat = k by omega]
      exact hA
  | m + 1, n + 1, k, σ1, hmn, hk, hE, hT, hA => by
    obtain ⟨-, -, -, -, hY, -, t0, t1, hN, -⟩ := id h
    obtain ⟨n1, n2, n3, n4⟩ := id hn
    obtain ⟨⟨g1, g2⟩, ⟨cp1, cp2⟩, -, ⟨wp1, wp2⟩, -⟩ := h.2.2.1.2.1
    have cb := h.2.2.2.1.abs h.2.2.1.2.1
    obtain ⟨⟨a1, a2, a3, a4⟩, a5, a6, a7, a8, a9, a10⟩ := h.at hE
    obtain ⟨c1, c2, c3, c4⟩ := a8 io (by omega) (by omega)
    obtain ⟨e1, e2, e3, e4⟩ := a8 im (by omega) (by omega)
    obtain ⟨⟨og1, og2⟩, ⟨oc1, oc2⟩, ⟨or1, or2⟩, ⟨ow1, ow2⟩, ocw⟩ := (h.kn (i := io) (by omega) (by omega)).2
    have ml2 := n3.1
    have opb : ∀ l : List (Evt × Int), 0 ≤ opn l ∧ opn l ≤ l.length := by
      intro l
      induction l with
      | nil => exact ⟨Int.le_refl _, Int.le_refl _⟩
      | cons y l ih => rw [opn, List.length_cons]; split <;> omega
    have ob1 := opb (M.map (fun e => stF K a (fndL (rowL τ d (kd τ p io)) (gr τ p) (gr τ (kd τ p io)) (e.1 * gr τ (kd τ p io)) c k c) e))
    rw [List.length_map] at ob1
    have ph := phi_lo (show 0 ≤ wk τ p by omega)
    have st : Rw_meet_117 N (Rw_rowC N d) π (n + 1) σ1 r c (el σ (fl σ 101 r) im) (el σ (fl σ 101 r) io) kk (fl σ 46 10) (fl σ 46 10 + M.length) (opn (M.map (fun e => stF K a (fndL (rowL τ d (kd τ p io)) (gr τ p) (gr τ (kd τ p io)) (e.1 * gr τ (kd τ p io)) c k c) e))) (c - k) = if (0 : Int) < opn (M.map (fun e => stF K a (fndL (rowL τ d (kd τ p io)) (gr τ p) (gr τ (kd τ p io)) (e.1 * gr τ (kd τ p io)) c k c) e)) then Option.bind (Rw_rowC N d π σ1 (el σ (fl σ 101 r) io) (c - k)) (fun r35 => grd (ob π r 5) (grd (ob π (el σ (fl σ 101 r) im) 5) (Option.bind (Rw_meetRow N π r35 (fl r35 100 r) (fl σ 46 10) (fl σ 46 10 + M.length) (fl r35 102 (el σ (fl σ 101 r) im)) (fl r35 102 (el σ (fl σ 101 r) io)) ((c - k - c) * (fl r35 102 (el σ (fl σ 101 r) io)))) (fun r41 => bnd (opn (M.map (fun e => stF K a (fndL (rowL τ d (kd τ p io)) (gr τ p) (gr τ (kd τ p io)) (e.1 * gr τ (kd τ p io)) c k c) e)) - r41.2) (fun v45 => bnd (c - k - 1) (fun v47 => Rw_meet_117 N (Rw_rowC N d) π n (sf r41.1 46 10 (fl σ 46 10 + M.length)) r c (el σ (fl σ 101 r) im) (el σ (fl σ 101 r) io) kk (fl σ 46 10) (fl σ 46 10 + M.length) v45 v47)))))) else Rw_meet_198 N (Rw_rowC N d) π σ1 kk (fl σ 46 10) := by
      rw [Rw_meet_117, grd_t c2, grd_t (by exact ⟨by omega, by omega⟩), c4, grd_t (by exact ⟨by omega, by omega⟩), if_neg (by omega), grd_t (by exact ⟨by omega, by omega⟩)]
    rw [st]
    by_cases cl : (0 : Int) < opn (M.map (fun e => stF K a (fndL (rowL τ d (kd τ p io)) (gr τ p) (gr τ (kd τ p io)) (e.1 * gr τ (kd τ p io)) c k c) e))
    · rw [if_pos cl]
      -- there is an event, so the main pattern has a crowd
      have m1 : 1 ≤ cw τ (kd τ p im) := by omega
      have w2 : 2 * wk τ (kd τ p io) ≤ wk τ p := by
        have u1 : 1 * 2 ≤ cw τ (kd τ p im) * (rc τ (kd τ p io) + 1) := Int.mul_le_mul m1 (by omega) (by omega) (by omega)
        have u2 := Int.mul_le_mul_of_nonneg_right u1 (show 0 ≤ wk τ (kd τ p io) by omega)
        omega
      have pt := phi_two (w := wk τ (kd τ p io)) (v := wk τ p) (c := cw τ (kd τ p io)) (by omega) w2 wp2 oc2 ocw
      have kc : CB τ d (kd τ p io) (c - k) := h.2.2.2.1.same ow1 (by omega) (by omega) (by omega)
      obtain ⟨σ2, q1, q2, q3, q4⟩ := h.kid hE (i := io) (c' := c - k) (by omega) (by omega) kc (by omega) (by omega)
      have hE2 : EF (fl σ 46 10) σ σ2 := hE.tr q2 (by omega)
      obtain ⟨⟨b1, b2, b3, b4⟩, b5, b6, b7, b8, b9, b10⟩ := h.at hE2
      obtain ⟨d1, d2, d3, d4⟩ := b8 io (by omega) (by omega)
      obtain ⟨f1, f2, f3, f4⟩ := b8 im (by omega) (by omega)
      have gdo := row_good d (kd τ p io) (c - k) (h.kn (i := io) (by omega) (by omega)).1
      have glo := gdo.1
      have ph2 := phi_lo (show 0 ≤ wk τ (kd τ p io) by omega)
      have la1 : -65 * gr τ (kd τ p io) ≤ (c - k - c) * gr τ (kd τ p io) := Int.mul_le_mul_of_nonneg_right (by omega) (by omega)
      have la2 : (c - k - c) * gr τ (kd τ p io) ≤ 0 * gr τ (kd τ p io) := Int.mul_le_mul_of_nonneg_right (by omega) (by omega)
      have rl : rc τ (kd τ p io) * gr τ (kd τ p io) ≤ 64 * gr τ (kd τ p io) := Int.mul_le_mul_of_nonneg_right or2 (by omega)
      have hA2 : At (CM σ2) (fl σ 46 10) (M.map (fun e => stF K a (fndL (rowL τ d (kd τ p io)) (gr τ p) (gr τ (kd τ p io)) (e.1 * gr τ (kd τ p io)) c k c) e)) := by
        refine hA.mono (fun i x i0 i1 _ hx => ?_)
        rw [List.length_map] at i1
        unfold CM CE at hx ⊢
        rw [q2.2.2.2 11 i (by decide) (by decide) (by omega), q2.2.2.2 12 i (by decide) (by decide) (by omega), q2.2.2.2 13 i (by decide) (by decide) (by omega), q2.2.2.2 14 i (by decide) (by decide) (by omega), q2.2.2.2 15 i (by decide) (by decide) (by omega), q2.2.2.2 16 i (by decide) (by decide) (by omega)]
        exact hx
      obtain ⟨σ3, z1, z2, z3, z4⟩ := c_meetRow (N := N) (π := π) (s := fl σ 100 r) (to := fl σ 46 10 + M.length) (g := gr τ p) (h := gr τ (kd τ p io)) (later := (c - k - c) * gr τ (kd τ p io)) (K := K) (a := a) hN a5 ⟨g1, g2⟩ ⟨og1, og2⟩ ⟨by omega, by omega⟩ (O := rowL τ d (kd τ p io) (c - k)) gdo.2.2 (fun o ho => by
          obtain ⟨⟨u1, u2⟩, ⟨u3, u4⟩, -⟩ := gdo.2.1 o ho
          exact ⟨u1, by omega, by omega, by omega⟩) (t0 := fl σ 46 10) t0 (M.map (fun e => stF K a (fndL (rowL τ d (kd τ p io)) (gr τ p) (gr τ (kd τ p io)) (e.1 * gr τ (kd τ p io)) c k c) e)) N σ2 [] [] (rowL τ d (kd τ p io) (c - k)) 0 (by rw [List.length_map]; omega) (by rw [b9 200 (by omega)]; exact hK) (by rw [b9 202 (by omega)]; exact ha) hA2 (by rw [List.length_map]; simp) (by rw [← hT]; exact q4) (by rw [q3, hT]) (by rw [q3, hT]; omega) rfl (by simp) (by
            refine List.pairwise_map.2 (hM.2.imp (fun {x y} hxy => ?_))
            rw [(stF_b K a _ x).1, (stF_b K a _ y).1]
            exact hxy) (fun x hx => by
            obtain ⟨e, he, rfl⟩ := List.mem_map.1 hx
            obtain ⟨s1, s2, -⟩ := stF_b K a (fndL (rowL τ d (kd τ p io)) (gr τ p) (gr τ (kd τ p io)) (e.1 * gr τ (kd τ p io)) c k c) e
            rw [s1]
            refine ⟨by have := (hM.1 e he).1; omega, ?_⟩
            rcases s2 with s | s | s <;> rw [s] <;> decide)
      simp only [List.length_nil, List.nil_append] at z1 z3 z4
      rw [show fl σ 46 10 + (M.length : Int) + ((0 : Nat) : Int) = fl σ 46 10 + M.length by omega, show fl σ 46 10 + ((0 : Nat) : Int) = fl σ 46 10 by omega] at z1
      have mm : (M.map (fun e => stF K a (fndL (rowL τ d (kd τ p io)) (gr τ p) (gr τ (kd τ p io)) (e.1 * gr τ (kd τ p io)) c k c) e)).map (mtR K a (gr τ p) (gr τ (kd τ p io)) ((c - k - c) * gr τ (kd τ p io)) (rowL τ d (kd τ p io) (c - k))) = M.map (fun e => stF K a (fndL (rowL τ d (kd τ p io)) (gr τ p) (gr τ (kd τ p io)) (e.1 * gr τ (kd τ p io)) c (k + 1) c) e) := by
        rw [List.map_map]
        refine List.map_congr_left (fun e _ => ?_)
        exact mtR_stF (R := rowL τ d (kd τ p io)) e
      rw [mm] at z1 z4
      have hE3 : EF (fl σ 46 10) σ (sf σ3 46 10 (fl σ 46 10 + M.length)) := by
        refine ⟨fun f i x y w => ?_, fun hy => ?_, fun b j hj => ?_, fun b j x y hj => ?_⟩
        · rw [fl_sfn _ _ _ _ x, z2, hE2.1 f i x y w]
        · unfold KY
          rw [fl_sfn _ _ _ _ (by decide), fl_sfn _ _ _ _ (by decide), z2, z2]
          exact hE2.2.1 hy
        · rw [el_sf, z3 b j (by omega), hE2.2.2.1 b j hj]
        · rw [el_sf, z3 b j (by omega), hE2.2.2.2 b j x y hj]
      obtain ⟨σ', y1, y2⟩ := ck_meet117 h h01 hn hK ha hM hMl m n (k + 1) (sf σ3 46 10 (fl σ 46 10 + M.length)) (by omega) (by omega) hE3 (fl_sfs _ _ _ _) z4
      refine ⟨σ', ?_, y2⟩
      rw [q1, Option.bind_some, grd_t a1, grd_t e2, b2, f3, d3, n2, Rw_meetRow, z1, Option.bind_some, bnd, bnd]
      have nx : opn (M.map (fun e => stF K a (fndL (rowL τ d (kd τ p io)) (gr τ p) (gr τ (kd τ p io)) (e.1 * gr τ (kd τ p io)) c k c) e)) - (0 + (opn (M.map (fun e => stF K a (fndL (rowL τ d (kd τ p io)) (gr τ p) (gr τ (kd τ p io)) (e.1 * gr τ (kd τ p io)) c k c) e)) - opn (M.map (fun e => stF K a (fndL (rowL τ d (kd τ p io)) (gr τ p) (gr τ (kd τ p io)) (e.1 * gr τ (kd τ p io)) c (k + 1) c) e)))) = opn (M.map (fun e => stF K a (fndL (rowL τ d (kd τ p io)) (gr τ p) (gr τ (kd τ p io)) (e.1 * gr τ (kd τ p io)) c (k + 1) c) e)) := by omega
      simp only at nx ⊢
      rw [nx, show c - (k : Int) - 1 = c - ((k + 1 : Nat) : Int) by omega]
      exact y1
    · rw [if_neg cl]
      refine ⟨σ1, rfl, hE, hT, ?_⟩
      have ee : M.map (fun e => stF K a (fndL (rowL τ d (kd τ p io)) (gr τ p) (gr τ (kd τ p io)) (e.1 * gr τ (kd τ p io)) c (rc τ (kd τ p io) + 1).toNat c) e) = M.map (fun e => stF K a (fndL (rowL τ d (kd τ p io)) (gr τ p) (gr τ (kd τ p io)) (e.1 * gr τ (kd τ p io)) c k c) e) := by
        refine List.map_congr_left (fun e he => ?_)
        have nz := opn_z (show opn (M.map (fun e => stF K a (fndL (rowL τ d (kd τ p io)) (gr τ p) (gr τ (kd τ p io)) (e.1 * gr τ (kd τ p io)) c k c) e)) ≤ 0 by omega) _ (List.mem_map_of_mem he)
        have sb := (stF_b K a (fndL (rowL τ d (kd τ p io)) (gr τ p) (gr τ (kd τ p io)) (e.1 * gr τ (kd τ p io)) c k c) e).2.2
        cases hf : fndL (rowL τ d (kd τ p io)) (gr τ p) (gr τ (kd τ p io)) (e.1 * gr τ (kd τ p io)) c k c with
        | none => exact absurd (sb.2 hf) nz
        | some v =>
          rw [show (rc τ (kd τ p io) + 1).toNat = k + (m + 1) by omega, fndL_mono (m + 1) k hf]
      rw [ee]
      exact hA
end CKb
