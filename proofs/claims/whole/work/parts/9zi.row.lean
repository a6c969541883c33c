/-! a row of kids -/
def CHn (τ : St) (lo hi : Int) : List Int → Int → Prop
  | [], c => c = -1
  | x :: xs, c => (c = x ∧ ND lo hi x ∧ 0 ≤ el τ 94 x ∧ el τ 94 x < 100) ∧ CHn τ lo hi xs (el τ 85 x)
def wtn (τ : St) (x : Int) : Int × Int := if el τ 94 x = 24 then (el τ 92 x, el τ 91 x) else (1, 1)
def kzz (τ : St) : List Int → Int → List Kid
  | [], _ => []
  | x :: xs, i => (el τ 54 i, wtn τ x) :: kzz τ xs (i + 1)
theorem kzz_len (τ : St) : ∀ (cs : List Int) (i : Int), (kzz τ cs i).length = cs.length
  | [], _ => rfl
  | _ :: xs, i => by show (kzz τ xs (i + 1)).length + 1 = _; rw [kzz_len τ xs]; rfl
theorem CHn.cg {τ τ' : St} {lo hi : Int} (h : ∀ a i : Int, 85 ≤ a → a ≤ 94 → lo ≤ i → i < hi → el τ' a i = el τ a i) : ∀ {cs : List Int} {c : Int}, CHn τ lo hi cs c → CHn τ' lo hi cs c
  | [], _, k => k
  | x :: xs, c, k => by
    obtain ⟨⟨k1, k2, k3⟩, k4⟩ := k
    refine ⟨⟨k1, k2, by rw [h 94 x (by omega) (by omega) k2.2.1 k2.2.2]; exact k3⟩, ?_⟩
    rw [h 85 x (by omega) (by omega) k2.2.1 k2.2.2]
    exact CHn.cg h k4
def RKd (kd K cnt : Int) : Prop := (kd = 1 ∧ K = 5 ∧ cnt = 1) ∨ (kd = 2 ∧ K = 6 ∧ cnt = 1) ∨ (kd = 23 ∧ K = 4 ∧ cnt = 0) ∨ (kd = 25 ∧ K = 5 ∧ cnt = 0) ∨ (kd = 26 ∧ K = 6 ∧ cnt = 0) ∨ (kd = 27 ∧ K = 7 ∧ cnt = 0)
section RW2
variable {N : Nat}
theorem row17 {τ : St} {lo hi x1 x2 : Int} (h2 : i32 x2) : ∀ (cs : List Int) (n : Nat) (x3 c : Int), cs.length < n → CHn τ lo hi cs c → r_row_17 N n τ x1 x2 x3 c = if x2 = 1 then r_row_48 N τ x1 x2 (x3 + cs.length) else if x2 = 2 then r_row_48 N τ x1 x2 (x3 + cs.length) else r_row_61 N τ x1 x2 (x3 + cs.length) := by
  intro cs
  induction cs with
  | nil =>
    intro n x3 c hn h
    cases n with
    | zero => omega
    | succ n =>
      have hc : c = -1 := h
      rw [r_row_17, hc, grd_t (by decide), if_pos rfl, grd_t h2]
      simp
  | cons x xs ih =>
    intro n x3 c hn h
    cases n with
    | zero => omega
    | succ n =>
      obtain ⟨⟨k1, k2, k3⟩, k4⟩ := h
      have b := k2.1
      rw [r_row_17, k1, grd_t (by exact ⟨by omega, by omega⟩), if_neg (by omega), grd_t k2.b, bnd, ih n (x3 + 1) (el τ 85 x) (by simp only [List.length_cons] at hn; omega) k4]
      simp only [List.length_cons]
      rw [show x3 + 1 + (xs.length : Int) = x3 + ((xs.length + 1 : Nat) : Int) by omega]
theorem row144 {τ0 : St} {lo hi x1 : Int} (hx : inb x1 32768) : ∀ (cs : List Int) (n : Nat) (τ : St) (i c : Int), cs.length < n → (∀ a x : Int, a = 54 ∨ a = 85 ∨ 91 ≤ a → el τ a x = el τ0 a x) → CHn τ0 lo hi cs c → 0 ≤ i → i + cs.length ≤ 20000 → r_row_144 N n τ x1 i c = Option.bind (aKs N (kzz τ0 cs i) τ) (fun r => r_made N r (el τ0 93 x1)) := by
  intro cs
  induction cs with
  | nil =>
    intro n τ i c hn he h i0 i1
    cases n with
    | zero => omega
    | succ n =>
      have hc : c = -1 := h
      rw [r_row_144, hc, grd_t (by decide), if_pos rfl, grd_t hx, bsm, he 93 x1 (by omega)]
      rfl
  | cons x xs ih =>
    intro n τ i c hn he h i0 i1
    cases n with
    | zero => omega
    | succ n =>
      obtain ⟨⟨k1, k2, k3⟩, k4⟩ := h
      have b := k2.1
      simp only [List.length_cons] at hn i1
      have key : ∀ (p w r : Int), r_row_209 N (r_row_144 N n) τ x1 i x r w p = Option.bind (r_addKid N τ p w r) (fun r => Option.bind (aKs N (kzz τ0 xs (i + 1)) r) (fun r => r_made N r (el τ0 93 x1))) := by
        intro p w r
        rw [r_row_209]
        cases hq : r_addKid N τ p w r with
        | none => rfl
        | some t1 =>
          rw [Option.bind_some, Option.bind_some, grd_t k2.b, bnd]
          have e1 : ∀ a x : Int, a = 54 ∨ a = 85 ∨ 91 ≤ a → el t1 a x = el τ a x := by
            intro a y ha
            unfold r_addKid at hq
            by_cases g1 : inb (fl τ 61 0) 210000
            · rw [grd_t g1] at hq
              by_cases g2 : inb (fl τ 48 0) 103000
              · rw [grd_t g2] at hq
                rw [← Option.some.inj hq, el_sen _ _ _ _ (by omega), el_sf, el_sen _ _ _ _ (by omega), el_sen _ _ _ _ (by omega)]
              · rw [grd, if_neg g2] at hq; exact absurd hq (by simp)
            · rw [grd, if_neg g1] at hq; exact absurd hq (by simp)
          rw [e1 85 x (by omega), he 85 x (by omega)]
          exact ih n t1 (i + 1) (el τ0 85 x) (by omega) (fun a y ha => (e1 a y ha).trans (he a y ha)) k4 (by omega) (by omega)
      show r_row_144 N (n + 1) τ x1 i c = Option.bind (Option.bind (r_addKid N τ (el τ0 54 i) (wtn τ0 x).1 (wtn τ0 x).2) (fun r => aKs N (kzz τ0 xs (i + 1)) r)) (fun r => r_made N r (el τ0 93 x1))
      rw [Option.bind_assoc, r_row_144, k1, grd_t (by exact ⟨by omega, by omega⟩), if_neg (by omega), grd_t k2.b, he 94 x (by omega), grd_t (by exact ⟨by omega, by omega⟩)]
      by_cases c24 : el τ0 94 x = 24
      · rw [if_pos c24, r_row_167, grd_t (by exact ⟨i0, by omega⟩), grd_t (by decide), if_neg (by decide), grd_t k2.b, r_row_193, grd_t (by decide), if_neg (by decide), grd_t k2.b, key, he 54 i (by omega), he 91 x (by omega), he 92 x (by omega)]
        unfold wtn
        rw [if_pos c24]
      · rw [if_neg c24, r_row_167, grd_t (by exact ⟨i0, by omega⟩), grd_t (by decide), if_pos rfl, r_row_193, grd_t (by decide), if_pos rfl, key, he 54 i (by omega)]
        unfold wtn
        rw [if_neg c24]
theorem row118 {τ0 τ : St} {lo hi n Q K a place : Int} {cs : List Int} (hN : 30000 ≤ N) (hn : inb n 32768) (he : ∀ a x : Int, el τ a x = el τ0 a x) (hch : CHn τ0 lo hi cs (el τ0 87 n)) (hQ : 0 ≤ Q ∧ Q + cs.length ≤ 20000) (hl : cs.length ≤ 2000) (h93 : el τ0 93 n = place) (h92 : el τ0 92 n = a) : r_row_118 N (sf τ 68 0 Q) n K = rMk N τ Q K a 0 0 0 place (kzz τ0 cs Q) := by
  rw [r_row_118, grd_t hn, rMk, el_sf, he 92 n, h92]
  cases hq : r_opens N (sf τ 68 0 Q) K a 0 0 0 with
  | none => rfl
  | some t1 =>
    rw [Option.bind_some, Option.bind_some, bnd]
    have e1 : (∀ a x : Int, ¬ (64 ≤ a ∧ a ≤ 70) → el t1 a x = el τ0 a x) ∧ fl t1 68 0 = Q := by
      unfold r_opens at hq
      by_cases g2 : inb (fl (sf τ 68 0 Q) 48 0) 103000
      · rw [grd_t g2] at hq
        rw [← Option.some.inj hq]
        refine ⟨fun a x ha => ?_, ?_⟩
        · rw [el_sen _ _ _ _ (by omega), el_sen _ _ _ _ (by omega), el_sen _ _ _ _ (by omega), el_sen _ _ _ _ (by omega), el_sen _ _ _ _ (by omega), el_sen _ _ _ _ (by omega), el_sen _ _ _ _ (by omega), el_sf]; exact he a x
        · simp only [fl_se]; exact fl_sfs _ _ _ _
      · rw [grd, if_neg g2] at hq; exact absurd hq (by simp)
    rw [e1.1 87 n (by omega), e1.2, ← h93]
    exact row144 hn cs N t1 Q (el τ0 87 n) (by omega) (fun a x ha => e1.1 a x (by omega)) hch hQ.1 hQ.2
theorem row_rCM {τ : St} {lo hi n K cnt a place Q : Int} {cs : List Int} (hN : 300000 ≤ N) (hn : inb n 32768) (hk : RKd (el τ 94 n) K cnt) (hch : CHn τ lo hi cs (el τ 87 n)) (h11 : fl τ 11 0 = 0) (h68 : fl τ 68 0 = Q + cs.length) (hQ : 0 ≤ Q ∧ Q + cs.length ≤ 20000) (h64 : 0 ≤ fl τ 64 0 ∧ fl τ 64 0 ≤ 200) (h70 : 0 ≤ fl τ 70 0 ∧ fl τ 70 0 ≤ 12) (hl : cs.length ≤ 2000) (hl2 : cnt = 1 → 2 ≤ cs.length) (h93 : el τ 93 n = place) (h92 : el τ 92 n = a) : r_row N τ n = rCM N τ (bsd cnt cs.length) Q K a 0 0 0 place (kzz τ cs Q) := by
  have k94 : 1 ≤ el τ 94 n ∧ el τ 94 n ≤ 27 := by rcases hk with h | h | h | h | h | h <;> omega
  rw [r_row, grd_t hn, bnd, bnd, row17 (by exact ⟨by omega, by omega⟩) cs N 0 _ (by omega) hch, Int.zero_add]
  have r61 : ∀ (τc : St), (∀ a x : Int, el τc a x = el τ a x) → fl τc 68 0 = fl τ 68 0 → i32 (fl τc 11 0) → r_row_61 N τc n (el τ 94 n) cs.length = if fl τc 11 0 = 0 then rMk N τc Q K a 0 0 0 place (kzz τ cs Q) else some τc := by
    intro τc he e68 h32
    have q : sf τc 68 0 (fl τc 68 0 - cs.length) = sf τc 68 0 Q := by rw [e68, h68]; congr 1; omega
    rw [r_row_61, grd_t h32]
    by_cases c0 : fl τc 11 0 = 0
    · rw [if_pos c0, if_pos c0, grd_t (by exact ⟨by omega, by omega⟩), q]
      have fin : ∀ K', r_row_118 N (sf τc 68 0 Q) n K' = rMk N τc Q K' a 0 0 0 place (kzz τ cs Q) := fun K' => row118 (by omega) hn he hch hQ hl h93 h92
      rcases hk with ⟨h1, h2, h3⟩ | ⟨h1, h2, h3⟩ | ⟨h1, h2, h3⟩ | ⟨h1, h2, h3⟩ | ⟨h1, h2, h3⟩ | ⟨h1, h2, h3⟩ <;> rw [h1, h2, ← fin] <;> simp [r_row_91]
    · rw [if_neg c0, if_neg c0]
  by_cases cc : cnt = 1
  · have hl' := hl2 cc
    have r48 : r_row_48 N τ n (el τ 94 n) cs.length = rCM N τ (bsd cnt cs.length) Q K a 0 0 0 place (kzz τ cs Q) := by
      have bs : bsd cnt cs.length = (cs.length : Int) - 2 := by unfold bsd; rw [if_neg (by omega)]; omega
      obtain ⟨τc, c1, c2, c3, c4⟩ := r_counts_b (N := N) (place := place) (bs := (cs.length : Int) - 2) 0 (cs.length - 2) N τ 0 (by omega) (by omega) (by omega) (by omega) h70 h11 h64
      have i11 : i32 (fl τc 11 0) := by rcases c4 with c4 | c4 <;> rw [c4.2.2.1] <;> exact ⟨by decide, by decide⟩
      rw [r_row_48, grd_t hn, rCM, bs, h93, r_counts, c1, Option.bind_some, Option.bind_some]
      exact r61 τc c3 (c2 68 0 (by decide) (by decide) (by decide)) i11
    rcases hk with ⟨h1, h2, h3⟩ | ⟨h1, h2, h3⟩ | ⟨h1, h2, h3⟩ | ⟨h1, h2, h3⟩ | ⟨h1, h2, h3⟩ | ⟨h1, h2, h3⟩
    · rw [if_pos h1]; exact r48
    · rw [if_neg (by omega), if_pos h1]; exact r48
    all_goals omega
  · have b0 : bsd cnt cs.length = 0 := by
      unfold bsd
      rw [if_pos (by rcases hk with h | h | h | h | h | h <;> omega)]
    have nk : el τ 94 n ≠ 1 ∧ el τ 94 n ≠ 2 := by rcases hk with h | h | h | h | h | h <;> omega
    rw [if_neg nk.1, if_neg nk.2, rCM, b0, r_c0 _ _ (by omega), Option.bind_some]
    exact r61 τ (fun _ _ => rfl) rfl (by rw [h11]; decide)
end RW2
section TR
variable {N : Nat} {U : Gl → Int → Stq → Prop} {ℓ : Int} {τp : St} {vlo P lo hi j u v e δ : Int} {k : Nat} {Kn : List Int} {avq : List (Int × Int)}
theorem ov2_kzz {π : Sh} {σ τ τp : St} {base rb lo hi : Int} {Kn : List Int} (ht : ∀ a i : Int, 85 ≤ a → a ≤ 94 → lo ≤ i → i < hi → el τ a i = el τp a i) : ∀ (cs : List Int) (ops : List Kid) (Q c : Int), CHn τp lo hi cs c → ops.map (fun k => k.2) = cs.map (wtn τp) → At (fun i o => OVa π σ τ base rb Kn o (el τ 54 i)) Q (ops.map (fun k => k.1)) → OV2 π σ τ base rb Kn ops (kzz τ cs Q)
  | [], [], _, _, _, _, _ => trivial
  | [], _ :: _, _, _, _, h, _ => absurd h (by simp)
  | _ :: _, [], _, _, _, h, _ => absurd h (by simp)
  | x :: cs, o :: ops, Q, c, hc, h, hA => by
    simp only [List.map_cons, List.cons.injEq] at h
    obtain ⟨⟨_, nd, _⟩, hc'⟩ := hc
    refine ⟨⟨?_, hA.1⟩, ov2_kzz ht cs ops (Q + 1) _ hc' h.2 hA.2⟩
    show o.2 = wtn τ x
    rw [h.1]
    unfold wtn
    rw [ht 94 x (by omega) (by omega) nd.2.1 nd.2.2, ht 92 x (by omega) (by omega) nd.2.1 nd.2.2, ht 91 x (by omega) (by omega) nd.2.1 nd.2.2]
theorem tk_row {n K place a cnt : Int} {cs : List Int} {ops : List Kid} (hN : 30000001 ≤ N) (hn : ND lo hi n) (hk : RKd (el τp 94 n) K cnt) (hch : CHn τp lo hi cs (el τp 87 n)) (h93 : el τp 93 n = place) (h92 : el τp 92 n = a) (hops : ops.map (fun k => k.2) = cs.map (wtn τp)) (hv : IV K a 0 0 0 ops) (hw : ∀ o ∈ ops, (1 ≤ o.2.1 ∧ o.2.1 ≤ 16) ∧ 1 ≤ o.2.2 ∧ o.2.2 ≤ 16) (hl : ops.length ≤ 2000) (hl2 : cnt = 1 → 2 ≤ ops.length) (hu : 1 ≤ u) (hv' : ops.length ≤ v ∧ 1 ≤ v) (hk' : 1 ≤ k) (he : e + ops.length ≤ 2 * (bsd cnt ops.length + 1)) (hd : ops.length ≤ bsd cnt ops.length + 10 + δ ∧ 0 ≤ δ) : TKS N U ℓ τp vlo lo hi P Kn j [(K, place, a, 0, 0, 0, cnt, ops)] u v k e δ [(5, n)] (ops.map (fun k => k.1)) [P + j] avq [] := by
  have hlen : ops.length = cs.length := by have := congrArg List.length hops; simpa using this
  refine TKS.made hN (by rcases hk with h | h | h | h | h | h <;> omega) hv hw hl hk' hu hv'.2 he hd (fun g π σ τ Kn' base T Q ht hK hF => ?_)
  obtain ⟨f1, f2, f3, f4, f5, f6, f7, f8, f9, f10⟩ := hF
  have q : fl τ 68 0 = Q + cs.length := by rw [f2, List.length_map, hlen]
  have t : ∀ a, 85 ≤ a → a ≤ 94 → el τ a n = el τp a n := fun a x y => ht a n x y hn.2.1 hn.2.2
  refine ⟨τ, kzz τ cs Q, ?_, rf_rf _ _ _, f1, ov2_kzz ht cs ops Q _ hch hops f3⟩
  rw [does5, hlen]
  exact row_rCM (lo := lo) (hi := hi) (by omega) hn.b (by rw [t 94 (by omega) (by omega)]; exact hk) (by rw [t 87 (by omega) (by omega)]; exact hch.cg ht) f7 q (by omega) f8.2.2.2 (by omega) (by omega) (by omega) (by rw [t 93 (by omega) (by omega)]; exact h93) (by rw [t 92 (by omega) (by omega)]; exact h92)
end TR
