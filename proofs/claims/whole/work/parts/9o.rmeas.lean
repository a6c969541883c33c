/-! bounds of a pattern: the reference bounds all kinds -/
section RM3
variable {N : Nat}
def BZ (τ : St) (G : Int × Int × Int × Int) (x : Option St) : Prop := ∃ τ', x = some τ' ∧ GF τ τ' ∧ okG 1125899906842624 (fl τ' 80 0) G.1 ∧ fl τ' 81 0 = G.2.1 ∧ fl τ' 82 0 = G.2.2.1 ∧ fl τ' 83 0 = G.2.2.2 ∧ fl τ' 79 0 = fl τ 79 0
theorem BZ.of {τ : St} {g c w x : Int} {G : Int × Int × Int × Int} (h1 : okG 1125899906842624 g G.1) (h2 : c = G.2.1) (h3 : w = G.2.2.1) (h4 : x = G.2.2.2) : BZ τ G (Option.bind (r_bounds N τ g c w x) (fun y => some y)) := by
  refine ⟨sf (sf (sf (sf τ 80 0 g) 81 0 c) 82 0 w) 83 0 x, rfl, ⟨fun f i hf => ?_, fun _ _ => rfl⟩, h1, h2, h3, h4, rfl⟩
  rw [fl_sfn _ _ _ _ (by omega), fl_sfn _ _ _ _ (by omega), fl_sfn _ _ _ _ (by omega), fl_sfn _ _ _ _ (by omega)]
theorem r_boundsOf' {τ0 τ : St} {p K a b c d : Int} {l : List Kid} (hN : 300000 ≤ N) (hp : 0 ≤ p ∧ p < 103000) (hk : 0 ≤ el τ0 65 p ∧ el τ0 64 p = l.length ∧ el τ0 65 p + el τ0 64 p ≤ 210000) (hl : l.length ≤ 2000) (hA : At (KT τ0) (el τ0 65 p) l) (hv : IV K a b c d l) (h70 : el τ0 70 p = K) (h69 : el τ0 69 p = a) (h68 : el τ0 68 p = b) (h67 : el τ0 67 p = c) (h66 : el τ0 66 p = d) (gf : GF τ0 τ) (gs : GS τ (lcK τ0 1 l) (crS τ0 l) (mxK (cw τ0) 0 l) (mxK (rc τ0) 0 l) (wkS τ0 l) (mxK (wk τ0) 0 l) (mxK (fun q => el τ0 59 q) 0 l)) : BZ τ (bds τ0 K a b c d l) (r_boundsOf N τ p) := by
  obtain ⟨s1, s2, s3, s4, s5, s6, s7⟩ := gs
  have kok : ∀ k ∈ l, KOK τ0 k := At.all (P := fun x => KOK τ0 x) (fun _ _ hq => hq.2) hA
  have gpos : ∀ k ∈ l, 1 ≤ gr τ0 k.1 := fun k hk => (kok k hk).1.1.1
  have lc1 := (lcK_dvd (τ := τ0) l 1 (Int.le_refl _) gpos).2.1
  have ws := wS_b (l := l) (fun k hk => ⟨(kok k hk).2.2.1, (kok k hk).2.2.2⟩)
  have hp' : inb p 103000 := ⟨hp.1, hp.2⟩
  have t70 : el τ 70 p = K := (gf.2 70 p).trans h70
  have t69 : el τ 69 p = a := (gf.2 69 p).trans h69
  have t68 : el τ 68 p = b := (gf.2 68 p).trans h68
  have Kb : 1 ≤ K ∧ K ≤ 25 := by unfold IV at hv; omega
  have hd : r_boundsOf N τ p = grd (inb p 103000) (bnd a (fun v2 => bnd b (fun v4 => bnd ((fl τ 78 0) + 1) (fun v6 => grd (i32 K) (r_boundsOf N τ p))))) := by
    rw [grd_t hp', bnd, bnd, bnd, grd_t (by exact ⟨by omega, by omega⟩)]
  -- one kid
  have one : ∀ q : Int, l = [(q, 1, 1)] → okG 1125899906842624 (fl τ 73 0) (gr τ0 q) ∧ fl τ 73 0 = gr τ0 q ∧ fl τ 75 0 = cw τ0 q ∧ fl τ 76 0 = rc τ0 q ∧ fl τ 78 0 = wk τ0 q ∧ rng τ0 q := by
    rintro q rfl
    have kq := kok (q, 1, 1) (by simp)
    obtain ⟨⟨⟨g1, g2⟩, ⟨c1, c2⟩, ⟨r1, r2⟩, ⟨w1, w2⟩, z⟩, -⟩ := id kq
    have e1 : lcK τ0 1 [(q, 1, 1)] = gr τ0 q := lcI_1 g1
    have e2 : mxK (cw τ0) 0 [(q, 1, 1)] = cw τ0 q := by show max 0 (cw τ0 q) = _; simp only at c1; omega
    have e3 : mxK (rc τ0) 0 [(q, 1, 1)] = rc τ0 q := by show max 0 (rc τ0 q) = _; simp only at r1; omega
    have e4 : mxK (wk τ0) 0 [(q, 1, 1)] = wk τ0 q := by show max 0 (wk τ0 q) = _; simp only at w1; omega
    rw [e1] at s1
    rw [e2] at s3
    rw [e3] at s4
    rw [e4] at s6
    refine ⟨s1, ?_, s3, s4, s6, kq.1⟩
    simp only at g2
    rcases s1 with ⟨-, h⟩ | ⟨h, -⟩
    · exact h
    · omega
  have two : ∀ q q' : Int, l = [(q, 1, 1), (q', 1, 1)] → 23 ≤ K → BZ τ (if K = 24 then meB τ0 q' q else meB τ0 q q') (Option.bind (r_ofTwo N τ p) (fun r107 => some r107)) := by
    rintro q q' rfl K23
    obtain ⟨⟨⟨a1, a2, a3, a4⟩, ⟨⟨ag1, ag2⟩, ⟨ac1, ac2⟩, ⟨ar1, ar2⟩, ⟨aw1, aw2⟩, -⟩, -⟩, ⟨⟨b1, b2, b3, b4⟩, ⟨⟨bg1, bg2⟩, ⟨bc1, bc2⟩, ⟨br1, br2⟩, ⟨bw1, bw2⟩, -⟩, -⟩, -⟩ := hA
    simp only at a1 a3 a4 ag1 ag2 ac1 ac2 ar1 ar2 aw1 aw2 b1 b3 b4 bg1 bg2 bc1 bc2 br1 br2 bw1 bw2
    have hk2 := hk.2.1
    simp only [List.length_cons, List.length_nil] at hk2
    have fin : ∀ m o : Int, 0 ≤ m → m < 103000 → 0 ≤ o → o < 103000 → rng τ0 m → rng τ0 o → BZ τ (meB τ0 m o) (Option.bind (r_ofTwo_60 N τ m o) (fun r107 => some r107)) := by
      intro m o m0 m1 o0 o1 hm ho
      obtain ⟨⟨g1, g2⟩, ⟨c1, c2⟩, ⟨r1, r2⟩, ⟨w1, w2⟩, -⟩ := hm
      obtain ⟨-, -, ⟨s1', s2'⟩, ⟨x1, x2⟩, -⟩ := ho
      rw [r_ofTwo_60, grd_t (by exact ⟨by omega, by omega⟩), gf.2, gf.2, gf.2, gf.2, gf.2, gf.2, show el τ0 63 m = gr τ0 m from rfl, show el τ0 62 m = cw τ0 m from rfl, show el τ0 61 m = rc τ0 m from rfl, show el τ0 60 m = wk τ0 m from rfl, show el τ0 61 o = rc τ0 o from rfl, show el τ0 60 o = wk τ0 o from rfl, grd_t (by exact ⟨by omega, by omega⟩), grd_t (by exact ⟨by omega, by omega⟩), grd_t (by exact ⟨by omega, by omega⟩), grd_t (by exact ⟨by omega, by omega⟩), grd_t (by exact ⟨by omega, by omega⟩), grd_t (by exact ⟨by omega, by omega⟩), grd_t (by exact ⟨by omega, by omega⟩)]
      have := BZ.of (N := N) (τ := τ) (G := meB τ0 m o) (g := gr τ0 m) (okG.ex (show gr τ0 m ≤ 1125899906842624 by omega)) rfl rfl rfl
      obtain ⟨τ', y1, y2⟩ := this
      refine ⟨τ', ?_, y2⟩
      have y1' := y1
      show Option.bind (Option.bind (r_bounds N τ (gr τ0 m) (cw τ0 m) (rc τ0 m) (wk τ0 m + cw τ0 m * (rc τ0 o + 1) * wk τ0 o + 1)) (fun r21 => some r21)) (fun r107 => some r107) = some τ'
      rw [show Option.bind (r_bounds N τ (gr τ0 m) (cw τ0 m) (rc τ0 m) (wk τ0 m + cw τ0 m * (rc τ0 o + 1) * wk τ0 o + 1)) (fun r21 => some r21) = some τ' from y1, Option.bind_some]
    have rq := (kok (q, 1, 1) (by simp)).1
    have rq' := (kok (q', 1, 1) (by simp)).1
    rw [r_ofTwo, grd_t hp', gf.2, grd_t (by exact ⟨by omega, by omega⟩), gf.2, a1, bnd, grd_t (by exact ⟨by omega, by omega⟩), gf.2, b1, bnd, t70, grd_t (by exact ⟨by omega, by omega⟩)]
    by_cases c24 : K = 24
    · rw [if_pos c24, if_pos c24, r_ofTwo_42, grd_t hp', t70, grd_t (by exact ⟨by omega, by omega⟩), if_pos c24]
      exact fin q' q b3 b4 a3 a4 rq' rq
    · rw [if_neg c24, if_neg c24, r_ofTwo_42, grd_t hp', t70, grd_t (by exact ⟨by omega, by omega⟩), if_neg c24]
      exact fin q q' a3 a4 b3 b4 rq rq'
  unfold IV at hv
  rcases id hv with ⟨rfl, -⟩ | ⟨rfl, -⟩ | ⟨rfl, -⟩ | ⟨rfl, wl⟩ | ⟨rfl, -⟩ | ⟨rfl, -⟩ | ⟨rfl, wl, v1, v2⟩ | ⟨rfl, ⟨q, hq⟩, ⟨v1, v2⟩, ⟨v3, v4⟩, ⟨v5, v6⟩⟩ | ⟨rfl, ⟨q, hq⟩, ⟨v1, v2⟩, ⟨v3, v4⟩⟩ | ⟨hK, ⟨q, hq⟩, ⟨v1, v2⟩, ⟨v3, v4⟩, v5⟩ | ⟨rfl, ⟨q, hq⟩, v1, v2⟩ | ⟨hK, hq, -⟩ | ⟨rfl, hq, -⟩ | ⟨rfl, hq, -⟩ | ⟨hK, ⟨q, hq⟩, ⟨v1, v2⟩, v3⟩ | ⟨rfl, ⟨q, hq⟩, ⟨v1, v2⟩, v3⟩ | ⟨rfl, ⟨q, hq⟩, ⟨v1, v2⟩, ⟨v3, v4⟩, ⟨v5, v6⟩, ⟨v7, v8⟩, v9⟩ | ⟨hK, ⟨q, hq⟩, ⟨v1, v2⟩, ⟨v3, v4⟩⟩ | ⟨hK, hq⟩ | ⟨rfl, hq, -⟩
  · rw [r_boundsOf, grd_t hp', bnd, bnd, bnd, t70, grd_t (by decide)]
    exact BZ.of (N := N) (okG.ex (by decide)) rfl rfl rfl
  · rw [r_boundsOf, grd_t hp', bnd, bnd, bnd, t70, grd_t (by decide)]
    exact BZ.of (N := N) (okG.ex (by decide)) rfl rfl rfl
  · rw [r_boundsOf, grd_t hp', bnd, bnd, bnd, t70, grd_t (by decide)]
    exact BZ.of (N := N) (okG.ex (by decide)) rfl rfl rfl
  · -- a sequence
    have lw : 1 ≤ l.length := by
      cases l with
      | nil => exact absurd rfl wl.1
      | cons _ _ => simp
    have wl' : ∀ (l2 : List Kid) (n : Nat) (i w : Int), l2.length < n → At (KT τ0) i l2 → el τ0 65 p ≤ i → i + l2.length = el τ0 65 p + el τ0 64 p → r_weights_10 N n τ p w i = some (τ, w + wS l2) := by
      intro l2
      induction l2 with
      | nil =>
        intro n i w hn _ i0 h1
        cases n with
        | zero => omega
        | succ n =>
          simp only [List.length_nil] at h1
          rw [r_weights_10, grd_t hp', grd_t (by exact ⟨by omega, by omega⟩), gf.2, gf.2, grd_t (by exact ⟨by omega, by omega⟩), if_neg (by omega), wS, Int.add_zero]
      | cons k l2 ih =>
        intro n i w hn hA i0 h1
        cases n with
        | zero => omega
        | succ n =>
          simp only [List.length_cons] at h1 hn
          obtain ⟨⟨⟨k1, k2, k3, k4⟩, -, -, ⟨e1, e2⟩, ⟨o1, o2⟩⟩, kl'⟩ := hA
          have td : Int.tdiv (k.2.1 + 32 * k.2.2) 32 = k.2.2 := by rw [td_pos (by omega)]; omega
          have tm : Int.tmod (k.2.1 + 32 * k.2.2) 32 = k.2.1 := by rw [tm_pos (by omega)]; omega
          rw [r_weights_10, grd_t hp', grd_t (by exact ⟨by omega, by omega⟩), gf.2, gf.2, grd_t (by exact ⟨by omega, by omega⟩), if_pos (by omega), grd_t (by exact ⟨by omega, by omega⟩), gf.2, k2, grd_t (by exact ⟨by omega, by omega⟩), td, tm, grd_t (by exact ⟨by omega, by omega⟩), grd_t (by exact ⟨by omega, by omega⟩), bnd, ih n (i + 1) _ (by omega) kl' (by omega) (by omega), wS, Int.add_assoc]
    have wt : r_weights N τ p = some (τ, wS l) := by
      rw [r_weights, grd_t hp', bnd, gf.2, wl' l N (el τ0 65 p) 0 (by omega) hA (Int.le_refl _) (by omega), Int.zero_add]
    obtain ⟨v, v1, v2⟩ := r_timesG (N := N) (w := wS l) s1 lc1 ⟨by omega, by omega⟩
    rw [r_boundsOf, grd_t hp', bnd, bnd, bnd, t70, grd_t (by decide)]
    show BZ τ _ (Option.bind (r_weights N τ p) (fun r19 => Option.bind (r_times N (fl τ 73 0) r19.2) (fun r21 => Option.bind (r_bounds N r19.1 r21 (fl r19.1 74 0) (fl r19.1 76 0) ((fl r19.1 77 0) + 1)) (fun r23 => some r23))))
    rw [wt, Option.bind_some, v1, Option.bind_some]
    exact BZ.of (N := N) v2 s2 s4 (by rw [s5]; rfl)
  · rw [r_boundsOf, grd_t hp', bnd, bnd, bnd, t70, grd_t (by decide)]
    exact BZ.of (N := N) s1 s2 s4 (by rw [s5]; rfl)
  · rw [r_boundsOf, grd_t hp', bnd, bnd, bnd, t70, grd_t (by decide)]
    exact BZ.of (N := N) s1 s3 s4 (by rw [s6]; rfl)
  · -- a polymeter
    obtain ⟨v, u1, u2⟩ := r_timesG (N := N) (w := a) s1 lc1 ⟨by omega, by omega⟩
    rw [r_boundsOf, grd_t hp', bnd, bnd, bnd, t70, t69, grd_t (by decide)]
    show BZ τ _ (grd (i32 a) (Option.bind (r_times N (fl τ 73 0) a) (fun r33 => Option.bind (r_bounds N τ r33 (a * (fl τ 75 0)) (fl τ 76 0) ((a * (fl τ 78 0)) + 1)) (fun r35 => some r35))))
    rw [grd_t (by exact ⟨by omega, by omega⟩), u1, Option.bind_some]
    exact BZ.of (N := N) u2 (by rw [s3]; rfl) s4 (by rw [s6]; rfl)
  · -- spread
    obtain ⟨o1, o2, o3, o4, o5, ⟨g1, g2⟩, -⟩ := one q hq
    obtain ⟨v, u1, u2⟩ := r_timesG (N := N) (w := b) o1 g1 ⟨by omega, by omega⟩
    subst hq
    rw [r_boundsOf, grd_t hp', bnd, bnd, bnd, t70, t69, t68, grd_t (by decide)]
    show BZ τ _ (grd (i32 b) (Option.bind (r_times N (fl τ 73 0) b) (fun r39 => grd (i32 a) (Option.bind (r_bounds N τ r39 (a * (fl τ 75 0)) (fl τ 76 0) ((a * (fl τ 78 0)) + 1)) (fun r42 => some r42)))))
    rw [grd_t (by exact ⟨by omega, by omega⟩), u1, Option.bind_some, grd_t (by exact ⟨by omega, by omega⟩)]
    exact BZ.of (N := N) u2 (by rw [o3]; rfl) o4 (by rw [o5]; rfl)
  · -- faster
    obtain ⟨o1, o2, o3, o4, o5, ⟨g1, g2⟩, -, ⟨r1, r2⟩, -⟩ := one q hq
    obtain ⟨v, u1, u2⟩ := r_timesG (N := N) (w := a) o1 g1 ⟨by omega, by omega⟩
    subst hq
    have m2 : 0 ≤ rc τ0 q * b := Int.mul_nonneg (by omega) (by omega)
    have m3 : rc τ0 q * b ≤ 64 * 64 := Int.mul_le_mul r2 v4 (by omega) (by omega)
    rw [r_boundsOf, grd_t hp', bnd, bnd, bnd, t70, t69, t68, grd_t (by decide)]
    show BZ τ _ (grd (i32 a) (grd (i32 b) (Option.bind (r_up N a b) (fun r47 => if b = 1 then r_boundsOf_322 N τ a b 0 r47 else r_boundsOf_322 N τ a b 1 r47))))
    rw [grd_t (by exact ⟨by omega, by omega⟩), grd_t (by exact ⟨by omega, by omega⟩), r_up' ⟨by omega, by omega⟩ ⟨by omega, by omega⟩, Option.bind_some]
    have tail : ∀ z : Int, z = (if b = 1 then 0 else 1) → BZ τ (bds τ0 9 a b c d [(q, 1, 1)]) (r_boundsOf_322 N τ a b z ((a + b - 1) / b)) := by
      intro z hz
      rw [r_boundsOf_322, bnd, grd_t (by exact ⟨by omega, by omega⟩), u1, Option.bind_some, grd_t (by exact ⟨by omega, by omega⟩), o4, r_up' ⟨by omega, by omega⟩ ⟨by omega, by omega⟩, Option.bind_some]
      have et : (a + b - 1) / b + z = tmF a b := by unfold tmF; rw [hz]
      rw [et]
      exact BZ.of (N := N) u2 (by rw [o3]; rfl) rfl (by rw [o5]; rfl)
    by_cases c1 : b = 1
    · rw [if_pos c1]; exact tail 0 (by rw [if_pos c1])
    · rw [if_neg c1]; exact tail 1 (by rw [if_neg c1])
  · -- ahead, behind
    obtain ⟨o1, o2, o3, o4, o5, ⟨g1, g2⟩, -⟩ := one q hq
    obtain ⟨v, u1, u2⟩ := r_leastG (N := N) (b := b) (by omega) o1 g1 ⟨by omega, by omega⟩
    subst hq
    have hb : bds τ0 K a b c d [(q, 1, 1)] = (lcI (gr τ0 q) b, (if b = 1 then 1 else 2) * cw τ0 q, rc τ0 q, (if b = 1 then 1 else 2) * wk τ0 q + 1) := by rcases hK with rfl | rfl <;> rfl
    have tail : ∀ z : Int, z = (if b = 1 then 1 else 2) → BZ τ (lcI (gr τ0 q) b, (if b = 1 then 1 else 2) * cw τ0 q, rc τ0 q, (if b = 1 then 1 else 2) * wk τ0 q + 1) (r_boundsOf_391 N τ b z v) := by
      intro z hz
      rw [r_boundsOf_391, grd_t (by exact ⟨by omega, by omega⟩)]
      by_cases c1 : b = 1
      · rw [if_pos c1] at hz
        rw [if_pos c1 (α := Option St), r_boundsOf_412]
        exact BZ.of (N := N) u2 (by rw [o3, hz, if_pos c1]) o4 (by rw [o5, if_pos c1])
      · rw [if_neg c1] at hz
        rw [if_neg c1 (α := Option St), r_boundsOf_412]
        exact BZ.of (N := N) u2 (by rw [o3, hz, if_neg c1]) o4 (by rw [o5, if_neg c1])
    have fin : BZ τ (lcI (gr τ0 q) b, (if b = 1 then 1 else 2) * cw τ0 q, rc τ0 q, (if b = 1 then 1 else 2) * wk τ0 q + 1) (grd (i32 b) (Option.bind (r_least N (fl τ 73 0) b) (fun r52 => if b = 1 then r_boundsOf_391 N τ b 1 r52 else r_boundsOf_391 N τ b 2 r52))) := by
      rw [grd_t (by exact ⟨by omega, by omega⟩), u1, Option.bind_some]
      by_cases c1 : b = 1
      · rw [if_pos c1 (α := Option St)]; exact tail 1 (by rw [if_pos c1])
      · rw [if_neg c1 (α := Option St)]; exact tail 2 (by rw [if_neg c1])
    rw [hb, r_boundsOf, grd_t hp', bnd, bnd, bnd, t70, t69, t68]
    rcases hK with rfl | rfl <;> (rw [grd_t (by decide)]; exact fin)
  · obtain ⟨o1, o2, o3, o4, o5, ⟨g1, g2⟩, -⟩ := one q hq
    subst hq
    rw [r_boundsOf, grd_t hp', bnd, bnd, bnd, t70, grd_t (by decide)]
    exact BZ.of (N := N) o1 o3 rfl (by rw [o5]; rfl)
  · rw [r_boundsOf, grd_t hp', bnd, bnd, bnd, t70]
    rcases hK with rfl | rfl <;> (rw [grd_t (by decide)]; exact BZ.of (N := N) s1 s3 s4 (by rw [s6]; rfl))
  · rw [r_boundsOf, grd_t hp', bnd, bnd, bnd, t70, grd_t (by decide)]
    exact BZ.of (N := N) s1 s2 s4 (by rw [s5]; rfl)
  · rw [r_boundsOf, grd_t hp', bnd, bnd, bnd, t70, grd_t (by decide)]
    exact BZ.of (N := N) s1 s2 s4 (by rw [s5]; rfl)
  · -- turned, plied
    obtain ⟨o1, o2, o3, o4, o5, ⟨g1, g2⟩, -⟩ := one q hq
    subst hq
    rcases hK with rfl | rfl
    · obtain ⟨v, u1, u2⟩ := r_leastG (N := N) (b := a) (by omega) o1 g1 ⟨by omega, by omega⟩
      rw [r_boundsOf, grd_t hp', bnd, bnd, bnd, t70, t69, grd_t (by decide)]
      show BZ τ _ (grd (i32 a) (Option.bind (r_least N (fl τ 73 0) a) (fun r77 => Option.bind (r_bounds N τ r77 (2 * (fl τ 75 0)) (fl τ 76 0) ((2 * (fl τ 78 0)) + 1)) (fun r79 => some r79))))
      rw [grd_t (by exact ⟨by omega, by omega⟩), u1, Option.bind_some]
      exact BZ.of (N := N) u2 (by rw [o3]; rfl) o4 (by rw [o5]; rfl)
    · obtain ⟨v, u1, u2⟩ := r_timesG (N := N) (w := a) o1 g1 ⟨by omega, by omega⟩
      rw [r_boundsOf, grd_t hp', bnd, bnd, bnd, t70, t69, grd_t (by decide)]
      show BZ τ _ (grd (i32 a) (Option.bind (r_times N (fl τ 73 0) a) (fun r83 => Option.bind (r_bounds N τ r83 ((a * (fl τ 75 0)) * ((fl τ 76 0) + 1)) (fl τ 76 0) ((((fl τ 76 0) + 1) * ((fl τ 78 0) + (a * (fl τ 75 0)))) + 1)) (fun r85 => some r85))))
      rw [grd_t (by exact ⟨by omega, by omega⟩), u1, Option.bind_some]
      exact BZ.of (N := N) u2 (by rw [o3, o4]; rfl) o4 (by rw [o3, o4, o5]; rfl)
  · obtain ⟨o1, o2, o3, o4, o5, ⟨g1, g2⟩, -⟩ := one q hq
    subst hq
    rw [r_boundsOf, grd_t hp', bnd, bnd, bnd, t70, grd_t (by decide)]
    exact BZ.of (N := N) o1 o3 o4 (by rw [o5, o3]; rfl)
  · -- squeezed
    obtain ⟨o1, o2, o3, o4, o5, ⟨g1, g2⟩, -⟩ := one q hq
    subst hq
    have D0 : 0 < b * d := Int.mul_pos (by omega) (by omega)
    have D1 : b * d ≤ 64 * 64 := Int.mul_le_mul v4 v8 (by omega) (by omega)
    have U1 : c * b ≤ 64 * 64 := Int.mul_le_mul (by omega) v4 (by omega) (by omega)
    have U2 : 0 ≤ a * d := Int.mul_nonneg (by omega) (by omega)
    have g0 : 0 < gC (c * b - a * d) (b * d) := gC_pos D0
    have gle : gC (c * b - a * d) (b * d) ≤ b * d := gC_le D0
    have dD : gC (c * b - a * d) (b * d) ∣ b * d := Int.gcd_dvd_right _ _
    have d1 := dv_pos dD (by omega) (by omega)
    have d2 : b * d / gC (c * b - a * d) (b * d) ≤ b * d := Int.ediv_le_self _ (by omega)
    have m0 : 1 ≤ b * d / gC (c * b - a * d) (b * d) * gr τ0 q := by
      have := Int.mul_le_mul d1 g1 (by omega) (by omega)
      omega
    have m1 : b * d / gC (c * b - a * d) (b * d) * gr τ0 q ≤ 4096 * 1000000 := Int.mul_le_mul (by omega) g2 (by omega) (by omega)
    have sb : r_spanBelow N τ p = some (τ, b * d / gC (c * b - a * d) (b * d)) := by
      rw [r_spanBelow, grd_t hp', gf.2, gf.2, gf.2, gf.2, h67, h68, h69, h66, bnd, bnd, r_common' (by omega) (by omega) (by omega) (by omega) (by omega), Option.bind_some, grd_t (by exact ⟨by omega, by omega⟩), grd_t (by exact ⟨by omega, by omega⟩), grd_t (by omega), td_pos (by omega)]
    have tE : r_times N (gr τ0 q) (b * d / gC (c * b - a * d) (b * d)) = some (b * d / gC (c * b - a * d) (b * d) * gr τ0 q) := by
      generalize b * d / gC (c * b - a * d) (b * d) = D at d1 d2 m0 m1
      have q0 : 274877906944 ≤ 1125899906842624 / D := by
        rw [Int.le_ediv_iff_mul_le (by omega)]
        have := Int.mul_le_mul_of_nonneg_left (show D ≤ 4096 by omega) (show (0 : Int) ≤ 274877906944 by decide)
        omega
      have q2 : 1125899906842624 / D ≤ 1125899906842624 := Int.ediv_le_self _ (by decide)
      rw [r_times, grd_t (by exact ⟨by omega, by omega⟩), if_neg (by omega), grd_t (by omega), grd_t (by exact ⟨by omega, by omega⟩), td_pos (by decide), grd_t (by exact ⟨by omega, by omega⟩), if_pos (by omega), r_times_22, Int.mul_comm]
    rw [r_boundsOf, grd_t hp', bnd, bnd, bnd, t70, t68, grd_t (by decide)]
    show BZ τ _ (grd (i32 b) (Option.bind (r_spanBelow N τ p) (fun r92 => grd (i32 r92.2) (Option.bind (r_times N (fl τ 73 0) r92.2) (fun r95 => Option.bind (r_least N b r95) (fun r97 => Option.bind (r_bounds N r92.1 r97 (fl r92.1 75 0) (fl r92.1 76 0) (fl τ 78 0 + 1)) (fun r99 => some r99)))))))
    rw [grd_t (by exact ⟨by omega, by omega⟩), sb, Option.bind_some]
    simp only
    rw [grd_t (by exact ⟨by omega, by omega⟩), o2, tE, Option.bind_some]
    have hb : bds τ0 20 a b c d [(q, 1, 1)] = (lcI b (b * d / gC (c * b - a * d) (b * d) * gr τ0 q), cw τ0 q, rc τ0 q, wk τ0 q + 1) := rfl
    rw [hb]
    generalize b * d / gC (c * b - a * d) (b * d) * gr τ0 q = X at m0 m1
    have gx0 : 0 < gC b X := gC_pos (by omega)
    have gx1 : gC b X ≤ X := gC_le (by omega)
    obtain ⟨w1, w2, -, -, w5, w6, w7⟩ := lcI_b v3 m0
    have qx : 274877 ≤ 1125899906842624 / X := by
      rw [Int.le_ediv_iff_mul_le (by omega)]
      omega
    have qx2 : 1125899906842624 / X ≤ 1125899906842624 := Int.ediv_le_self _ (by decide)
    have lE : r_least N b X = some (lcI b X) := by
      rw [r_least, grd_t (by exact ⟨by omega, by omega⟩), if_pos (by omega), grd_t (by exact ⟨by omega, by omega⟩), if_pos (by omega), r_gcd (by omega) (by omega) (by omega) (by omega) (by omega), Option.bind_some, grd_t (by exact ⟨by omega, by omega⟩), grd_t (by omega), grd_t (by omega), td_pos (show 0 ≤ b by omega), td_pos (by decide), grd_t (by exact ⟨by omega, by omega⟩), grd_t (by exact ⟨by omega, by omega⟩), if_pos (by omega)]
      rw [Option.bind_some, grd_t (by exact ⟨by omega, by omega⟩), grd_t (by omega), td_pos (show 0 ≤ b by omega)]
      rfl
    have m2 : b * X ≤ 64 * 4096000000 := Int.mul_le_mul v4 (by omega) (by omega) (by omega)
    rw [lE, Option.bind_some]
    exact BZ.of (N := N) (okG.ex (show lcI b X ≤ _ by omega)) o3 o4 (by rw [o5])
  · -- dropped, kept
    obtain ⟨o1, o2, o3, o4, o5, ⟨g1, g2⟩, -⟩ := one q hq
    subst hq
    have hb : bds τ0 K a b c d [(q, 1, 1)] = (gr τ0 q, cw τ0 q, rc τ0 q, wk τ0 q + 1) := by rcases hK with rfl | rfl <;> rfl
    rw [hb, r_boundsOf, grd_t hp', bnd, bnd, bnd, t70]
    rcases hK with rfl | rfl <;> (rw [grd_t (by decide)]; exact BZ.of (N := N) o1 o3 o4 (by rw [o5]))
  · obtain ⟨q, q', hq⟩ := hq
    have hb : bds τ0 K a b c d l = if K = 24 then meB τ0 q' q else meB τ0 q q' := by rcases hK with rfl | rfl <;> (rw [hq]; rfl)
    have fin := two q q' hq (by omega)
    rw [hb, r_boundsOf, grd_t hp', bnd, bnd, bnd, t70]
    rcases hK with rfl | rfl <;> (rw [grd_t (by decide)]; exact fin)
  · obtain ⟨q, q', hq⟩ := hq
    have hb : bds τ0 25 a b c d l = meB τ0 q q' := by rw [hq]; rfl
    have fin := two q q' hq (by omega)
    rw [hb, r_boundsOf, grd_t hp', bnd, bnd, bnd, t70, grd_t (by decide)]
    exact fin
end RM3
