/-! rows of the reference: events joined with what sounds there, one by one -/
section RU
variable {N : Nat} {τ0 : St} {d : Nat} {k p c e : Int}
theorem r_end_lp (h : PR2 N τ0 d k p c e) (hK : el τ0 70 p = 23 ∨ el τ0 70 p = 24 ∨ (el τ0 70 p = 25 ∧ i32 (el τ0 69 p))) : ∀ (l : List (Evt × Option Vl)) (f : Nat) (τ : St) (K : List Evt) (i : Int), l.length < f → TB τ0 τ → At (RE τ) e K → At (MS τ) i l → (∀ x ∈ l, VO x.1.2.2 ∧ ∀ s, x.2 = some s → VO s) → e + K.length ≤ i → i + l.length = fl τ 84 0 → fl τ 84 0 ≤ 29999 → ∃ τ', r_endSounds_15 N f τ p (e + K.length) i = some τ' ∧ RP e τ τ' ∧ fl τ' 84 0 = e + K.length + (endL (el τ0 70 p) (el τ0 69 p) l).length ∧ At (RE τ') e (K ++ endL (el τ0 70 p) (el τ0 69 p) l)
  | [], f + 1, τ, K, i, _, tb, hA, _, _, hi, h1, h2 => by
    simp only [List.length_nil] at h1
    obtain ⟨hHR, hT, hC, k0, k1, e0, e1, hN⟩ := id h
    refine ⟨sf τ 84 0 (e + K.length), ?_, ⟨fun f j hf => fl_sfn _ _ _ _ hf, fun _ _ _ => rfl, fun _ _ _ => rfl⟩, by rw [fl_sfs, endL]; simp, ?_⟩
    · rw [r_endSounds_15, grd_t (by exact ⟨by omega, by omega⟩), grd_t (by exact ⟨by omega, by omega⟩), if_neg (by omega)]
    · show At (RE τ) e (K ++ [])
      rw [List.append_nil]
      exact hA
  | x :: l, f + 1, τ, K, i, hf, tb, hA, hl, hb, hi, h1, h2 => by
    obtain ⟨hHR, hT, hC, k0, k1, e0, e1, hN⟩ := id h
    have pp := hT.pos
    simp only [List.length_cons] at h1 hf
    obtain ⟨⟨ax, as⟩, al⟩ := hl
    obtain ⟨vx, vs⟩ := hb x (by simp)
    have hp : inb p 103000 := ⟨by omega, by omega⟩
    have hi3 : inb i 30000 := ⟨by omega, by omega⟩
    have t70 : el τ 70 p = el τ0 70 p := tb.1 70 _ (by decide)
    have t69 : el τ 69 p = el τ0 69 p := tb.1 69 _ (by decide)
    -- left out
    have drop : r_endSounds_15 N (f + 1) τ p (e + K.length) i = r_endSounds_286 N (r_endSounds_15 N f) τ p (e + K.length) i → endE (el τ0 70 p) (el τ0 69 p) x = [] → ∃ τ', r_endSounds_15 N (f + 1) τ p (e + K.length) i = some τ' ∧ RP e τ τ' ∧ fl τ' 84 0 = e + K.length + (endL (el τ0 70 p) (el τ0 69 p) (x :: l)).length ∧ At (RE τ') e (K ++ endL (el τ0 70 p) (el τ0 69 p) (x :: l)) := by
      intro hs hE
      obtain ⟨τ2, z1, z2, z3, z4⟩ := r_end_lp h hK l f τ K (i + 1) (by omega) tb hA al (fun y hy => hb y (by simp [hy])) (by omega) (by omega) (by omega)
      rw [endL, hE, List.nil_append]
      exact ⟨τ2, by rw [hs, r_endSounds_286]; exact z1, z2, z3, z4⟩
    -- kept
    have keep : ∀ (τ1 : St) (y : Evt), r_endSounds_15 N (f + 1) τ p (e + K.length) i = r_endSounds_276 N (r_endSounds_15 N f) τ1 p (e + K.length) i → endE (el τ0 70 p) (el τ0 69 p) x = [y] → (∀ f j, fl τ1 f j = fl τ f j) → (∀ a j, a < 47 ∨ 50 < a ∨ j ≠ i → el τ1 a j = el τ a j) → RE τ1 i y → ∃ τ', r_endSounds_15 N (f + 1) τ p (e + K.length) i = some τ' ∧ RP e τ τ' ∧ fl τ' 84 0 = e + K.length + (endL (el τ0 70 p) (el τ0 69 p) (x :: l)).length ∧ At (RE τ') e (K ++ endL (el τ0 70 p) (el τ0 69 p) (x :: l)) := by
      intro τ1 y hs hE q1 q2 q3
      obtain ⟨τ3, c1, c2, c3, c4, c5⟩ := r_copied (N := N) (m := e) (τ := τ1) (i := i) (k := e + K.length) (e := (y, (el τ1 45 i, el τ1 44 i, el τ1 43 i, el τ1 46 i))) e0 (by omega) hi (by omega) ⟨q3, rfl, rfl, rfl, rfl⟩
      have r1 : RP e τ τ3 := ⟨fun f j hf => (c2 f j).trans (q1 f j), fun a j ha => (c3.2.1 a j ha).trans (q2 a j (by omega)), fun a j hj => (c3.2.2 a j hj).trans (q2 a j (by omega))⟩
      have kk : e + (K.length : Int) + 1 = e + ((K ++ [y]).length : Int) := by simp only [List.length_append, List.length_cons, List.length_nil]; omega
      obtain ⟨τ2, z1, z2, z3, z4⟩ := r_end_lp h hK l f τ3 (K ++ [y]) (i + 1) (by omega) ((r1.rq (k := 0)).tb tb) (At.snoc (RE.of (fun b j _ j2 => by rw [c5 b j (by omega), q2 b j (by omega)]) hA) c4.1) (MS.of (fun b j j1 _ => by rw [c5 b j (by omega), q2 b j (by omega)]) al) (fun y hy => hb y (by simp [hy])) (by omega) (by rw [c2, q1]; omega) (by rw [c2, q1]; omega)
      refine ⟨τ2, ?_, r1.tr z2 (Int.le_refl _), ?_, ?_⟩
      · rw [hs, r_endSounds_276, c1, Option.bind_some, r_endSounds_286, kk]
        exact z1
      · rw [z3, endL, hE]; simp only [List.length_append, List.length_cons, List.length_nil]; omega
      · rw [endL, hE, ← List.append_assoc]
        exact z4
    have re : ∀ (τ1 : St) (v : Vl), (∀ a j, a < 47 ∨ 50 < a ∨ j ≠ i → el τ1 a j = el τ a j) → el τ1 50 i = v.1 → el τ1 49 i = v.2.1 → el τ1 48 i = v.2.2.1 → el τ1 47 i = v.2.2.2 → RE τ1 i (x.1.1, x.1.2.1, v) := fun τ1 v q u1 u2 u3 u4 => ⟨(q 52 i (by omega)).trans ax.1, (q 51 i (by omega)).trans ax.2.1, u1, u2, u3, u4⟩
    cases hx2 : x.2 with
    | none =>
      simp only [hx2] at as
      have hd : r_endSounds_15 N (f + 1) τ p (e + K.length) i = r_endSounds_39 N (r_endSounds_15 N f) τ p (e + K.length) i 0 := by
        rw [r_endSounds_15, grd_t (by exact ⟨by omega, by omega⟩), grd_t (by exact ⟨by omega, by omega⟩), if_pos (by omega), grd_t hi3, as, grd_t (by decide), if_pos (by decide)]
      rcases hK with hK | hK | ⟨hK, ha⟩
      · refine drop ?_ (by unfold endE; rw [hx2, hK]; rfl)
        rw [hd]
        simp [r_endSounds_39, grd_t hp, t70, hK, grd_t (show i32 23 by decide), grd_t (show i32 0 by decide)]
      · refine drop ?_ (by unfold endE; rw [hx2, hK]; rfl)
        rw [hd]
        simp [r_endSounds_39, r_endSounds_57, grd_t hp, t70, hK, grd_t (show i32 24 by decide), grd_t (show i32 0 by decide)]
      · refine keep τ x.1 ?_ (by unfold endE; rw [hx2, hK]; rfl) (fun _ _ => rfl) (fun _ _ _ => rfl) ax
        rw [hd]
        by_cases c35 : el τ0 69 p = 35
        · simp [r_endSounds_39, r_endSounds_57, r_endSounds_96, r_endSounds_159, grd_t hp, t70, hK, t69, c35, grd_t (show i32 25 by decide), grd_t (show i32 35 by decide), grd_t (show i32 0 by decide)]
        · simp [r_endSounds_39, r_endSounds_57, r_endSounds_96, r_endSounds_159, grd_t hp, t70, hK, t69, c35, grd_t (show i32 25 by decide), grd_t ha, grd_t (show i32 0 by decide)]
    | some s =>
      simp only [hx2] at as
      obtain ⟨s1, s2, s3, s4⟩ := as
      have vs := vs s hx2
      have sb : i32 s.2.2.2 ∧ ¬ s.2.2.2 < 0 := by
        rcases vs.has with ⟨u, -⟩ | ⟨u, -⟩ | u <;> rw [u] <;> decide
      have hd : r_endSounds_15 N (f + 1) τ p (e + K.length) i = r_endSounds_39 N (r_endSounds_15 N f) τ p (e + K.length) i 1 := by
        rw [r_endSounds_15, grd_t (by exact ⟨by omega, by omega⟩), grd_t (by exact ⟨by omega, by omega⟩), if_pos (by omega), grd_t hi3, s4, grd_t sb.1, if_neg sb.2]
      rcases hK with hK | hK | ⟨hK, ha⟩
      · obtain ⟨τ1, w1, w2, w3, w4, w5, w6, w7⟩ := r_take1 (N := N) hi3 vs s1 s2 s3 s4
        refine keep τ1 (x.1.1, x.1.2.1, s) ?_ (by unfold endE; rw [hx2, hK]; rfl) w2 w3 (re τ1 s w3 w4 w5 w6 w7)
        rw [hd]
        simp [r_endSounds_39, r_endSounds_57, r_endSounds_96, r_endSounds_134, r_endSounds_153, grd_t hp, t70, hK, grd_t (show i32 23 by decide), grd_t (show i32 1 by decide), w1]
      · have lo := r_loud (N := N) vs
        cases hlo : louE s with
        | true =>
          rw [hlo, if_pos rfl] at lo
          refine keep τ x.1 ?_ (by unfold endE; rw [hx2, hK]; simp only [hlo]; rfl) (fun _ _ => rfl) (fun _ _ _ => rfl) ax
          rw [hd]
          simp [r_endSounds_39, r_endSounds_57, r_endSounds_96, r_endSounds_159, grd_t hp, grd_t hi3, t70, hK, s4, s3, lo, grd_t (show i32 24 by decide), grd_t (show i32 1 by decide)]
        | false =>
          rw [hlo, if_neg (by simp)] at lo
          refine drop ?_ (by unfold endE; rw [hx2, hK]; simp only [hlo]; rfl)
          rw [hd]
          simp [r_endSounds_39, r_endSounds_57, r_endSounds_96, r_endSounds_159, grd_t hp, grd_t hi3, t70, hK, s4, s3, lo, grd_t (show i32 24 by decide), grd_t (show i32 1 by decide), grd_t (show i32 0 by decide)]
      · obtain ⟨x1, x2, x3, x4, x5, x6⟩ := ax
        by_cases c35 : el τ0 69 p = 35
        · obtain ⟨τ1, w1, w2, w3, w4⟩ := r_take0 (N := N) hi3 vx vs x3 x4 x5 x6 s1 s2 s3 s4
          refine keep τ1 (x.1.1, x.1.2.1, joiV 25 35 x.1.2.2 s) ?_ (by unfold endE; rw [hx2, hK, c35]; rfl) w2 w3 (re τ1 _ w3 (by rw [← w4]) (by rw [← w4]) (by rw [← w4]) (by rw [← w4]))
          rw [hd]
          simp [r_endSounds_39, r_endSounds_57, r_endSounds_96, r_endSounds_134, r_endSounds_153, grd_t hp, t70, hK, t69, c35, grd_t (show i32 25 by decide), grd_t (show i32 35 by decide), grd_t (show i32 1 by decide), grd_t (show i32 0 by decide), w1]
        · have j0 : joiV 25 (el τ0 69 p) x.1.2.2 s = if 2 ≤ x.1.2.2.2.2.2 ∧ 2 ≤ s.2.2.2 then (x.1.2.2.1, x.1.2.2.2.1, w32 (if el τ0 69 p = 43 then x.1.2.2.2.2.1 + s.2.2.1 else if el τ0 69 p = 45 then x.1.2.2.2.2.1 - s.2.2.1 else x.1.2.2.2.2.1 * s.2.2.1), x.1.2.2.2.2.2) else x.1.2.2 := by
            unfold joiV
            rw [if_neg (by decide), if_neg (by decide), if_neg c35]
          have h159 : r_endSounds_15 N (f + 1) τ p (e + K.length) i = r_endSounds_159 N (r_endSounds_15 N f) τ p (e + K.length) i 1 := by
            rw [hd]
            simp [r_endSounds_39, r_endSounds_57, r_endSounds_96, grd_t hp, t70, hK, t69, c35, grd_t (show i32 25 by decide), grd_t ha]
          have ii : (iand (iand x.1.2.2.2.2.2 s.2.2.2) 2 = 2 ∧ 2 ≤ x.1.2.2.2.2.2 ∧ 2 ≤ s.2.2.2) ∨ (iand (iand x.1.2.2.2.2.2 s.2.2.2) 2 = 0 ∧ ¬ (2 ≤ x.1.2.2.2.2.2 ∧ 2 ≤ s.2.2.2)) := by
            rcases vx.has with ⟨u, -⟩ | ⟨u, -⟩ | u <;> rcases vs.has with ⟨w, -⟩ | ⟨w, -⟩ | w <;> rw [u, w] <;> decide
          rcases ii with ⟨ii, iv⟩ | ⟨ii, iv⟩
          · rw [if_pos iv] at j0
            have fr : ∀ (v : Int) a j, a < 47 ∨ 50 < a ∨ j ≠ i → el (se τ 48 i v) a j = el τ a j := fun v a j hj => by rw [el_se, if_neg (by omega)]
            refine keep (se τ 48 i (w32 (if el τ0 69 p = 43 then x.1.2.2.2.2.1 + s.2.2.1 else if el τ0 69 p = 45 then x.1.2.2.2.2.1 - s.2.2.1 else x.1.2.2.2.2.1 * s.2.2.1))) (x.1.1, x.1.2.1, joiV 25 (el τ0 69 p) x.1.2.2 s) ?_ (by unfold endE; rw [hx2, hK]; rfl) (fun _ _ => rfl) (fr _) ?_
            · rw [h159]
              by_cases c43 : el τ0 69 p = 43
              · simp [r_endSounds_159, r_endSounds_275, grd_t hp, grd_t hi3, t70, hK, t69, c43, grd_t (show i32 25 by decide), grd_t (show i32 43 by decide), grd_t (show i32 1 by decide), grd_t (show i32 2 by decide), x5, x6, s3, s4, ii]
              · by_cases c45 : el τ0 69 p = 45
                · simp [r_endSounds_159, r_endSounds_275, grd_t hp, grd_t hi3, t70, hK, t69, c45, grd_t (show i32 25 by decide), grd_t (show i32 45 by decide), grd_t (show i32 1 by decide), grd_t (show i32 2 by decide), x5, x6, s3, s4, ii]
                · simp [r_endSounds_159, r_endSounds_275, grd_t hp, grd_t hi3, t70, hK, t69, c43, c45, grd_t (show i32 25 by decide), grd_t ha, grd_t (show i32 1 by decide), grd_t (show i32 2 by decide), x5, x6, s3, s4, ii]
            · rw [j0]
              refine re _ _ (fr _) ?_ ?_ ?_ ?_
              · rw [el_sen _ _ _ _ (by decide)]; exact x3
              · rw [el_sen _ _ _ _ (by decide)]; exact x4
              · exact el_ses _ _ _ _
              · rw [el_sen _ _ _ _ (by decide)]; exact x6
          · rw [if_neg iv] at j0
            refine keep τ x.1 ?_ (by unfold endE; rw [hx2, hK]; simp only; rw [j0]; rfl) (fun _ _ => rfl) (fun _ _ _ => rfl) ⟨x1, x2, x3, x4, x5, x6⟩
            rw [h159]
            simp [r_endSounds_159, grd_t hp, grd_t hi3, t70, hK, grd_t (show i32 25 by decide), grd_t (show i32 1 by decide), grd_t (show i32 0 by decide), x6, s4, ii]
end RU
