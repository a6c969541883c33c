/-! nodes of the reference's tables that are as the maker leaves them -/
def rng (τ : St) (p : Int) : Prop := (1 ≤ gr τ p ∧ gr τ p ≤ 1000000) ∧ (0 ≤ cw τ p ∧ cw τ p ≤ 400) ∧ (1 ≤ rc τ p ∧ rc τ p ≤ 64) ∧ (1 ≤ wk τ p ∧ wk τ p ≤ 50000) ∧ cw τ p ≤ wk τ p
/-- a kid that is no wider, farther, dearer -/
def sub (τ : St) (p q : Int) : Prop := cw τ q ≤ cw τ p ∧ rc τ q ≤ rc τ p ∧ wk τ q ≤ wk τ p
def NK1 (τ : St) (p : Int) : Prop := gr τ p = 1 ∧ 1 ≤ cw τ p ∧ VO (el τ 69 p, el τ 68 p, 0, 1)
def NK2 (τ : St) (p : Int) : Prop := gr τ p = 1 ∧ 1 ≤ cw τ p ∧ i32 (el τ 69 p)
def NK4 (τ : St) (p : Int) : Prop := 1 ≤ el τ 64 p ∧ ∃ G, gr τ p = wS (kl τ p) * G ∧ crS τ (kl τ p) ≤ cw τ p ∧ ∀ k ∈ kl τ p, (1 ≤ k.2.1 ∧ k.2.1 ≤ 31) ∧ (1 ≤ k.2.2 ∧ k.2.2 ≤ 1000) ∧ gr τ k.1 ∣ G ∧ rc τ k.1 ≤ rc τ p ∧ wk τ k.1 ≤ wk τ p
def NK5 (τ : St) (p : Int) : Prop := crS τ (kl τ p) ≤ cw τ p ∧ ∀ k ∈ kl τ p, k.2.2 = 1 ∧ gr τ k.1 ∣ gr τ p ∧ rc τ k.1 ≤ rc τ p ∧ wk τ k.1 ≤ wk τ p
def NK6 (τ : St) (p : Int) : Prop := 1 ≤ el τ 64 p ∧ wS (kl τ p) ≤ 1000000 ∧ ∀ k ∈ kl τ p, (1 ≤ k.2.1 ∧ k.2.1 ≤ 31) ∧ (1 ≤ k.2.2 ∧ k.2.2 ≤ 1000) ∧ gr τ k.1 ∣ gr τ p ∧ sub τ p k.1
def NK7 (τ : St) (p : Int) : Prop := 1 ≤ el τ 64 p ∧ wS (kl τ p) ≤ 1000000 ∧ (1 ≤ el τ 69 p ∧ el τ 69 p ≤ 32) ∧ ∃ G, gr τ p = el τ 69 p * G ∧ ∀ k ∈ kl τ p, (1 ≤ k.2.1 ∧ k.2.1 ≤ 31) ∧ (1 ≤ k.2.2 ∧ k.2.2 ≤ 1000) ∧ gr τ k.1 ∣ G ∧ el τ 69 p * cw τ k.1 ≤ cw τ p ∧ rc τ k.1 ≤ rc τ p ∧ el τ 69 p * wk τ k.1 ≤ wk τ p
def NK8 (τ : St) (p : Int) : Prop := el τ 64 p = 1 ∧ (0 ≤ el τ 69 p ∧ el τ 69 p ≤ el τ 68 p) ∧ (1 ≤ el τ 68 p ∧ el τ 68 p ≤ 32) ∧ (0 ≤ el τ 67 p ∧ el τ 67 p ≤ 31) ∧ gr τ p = el τ 68 p * gr τ (kd τ p 0) ∧ el τ 69 p * cw τ (kd τ p 0) ≤ cw τ p ∧ rc τ (kd τ p 0) ≤ rc τ p ∧ (el τ 69 p = 0 → cw τ p = 0) ∧ (1 ≤ el τ 69 p → wk τ (kd τ p 0) ≤ wk τ p)
def NK9 (τ : St) (p : Int) : Prop := el τ 64 p = 1 ∧ (1 ≤ el τ 69 p ∧ el τ 69 p ≤ 64) ∧ (1 ≤ el τ 68 p ∧ el τ 68 p ≤ 64) ∧ gr τ p = el τ 69 p * gr τ (kd τ p 0) ∧ ((el τ 69 p + el τ 68 p - 1) / el τ 68 p + (if el τ 68 p = 1 then 0 else 1)) * cw τ (kd τ p 0) ≤ cw τ p ∧ rc τ (kd τ p 0) * el τ 68 p ≤ rc τ p * el τ 69 p ∧ ((el τ 69 p + el τ 68 p - 1) / el τ 68 p + (if el τ 68 p = 1 then 0 else 1)) * wk τ (kd τ p 0) ≤ wk τ p
def NK10 (τ : St) (p : Int) : Prop := el τ 64 p = 1 ∧ (0 ≤ el τ 69 p ∧ el τ 69 p ≤ 64) ∧ (1 ≤ el τ 68 p ∧ el τ 68 p ≤ 64) ∧ (el τ 68 p = 1 ∨ el τ 69 p % el τ 68 p ≠ 0) ∧ gr τ (kd τ p 0) ∣ gr τ p ∧ el τ 68 p ∣ gr τ p ∧ (if el τ 68 p = 1 then 1 else 2) * cw τ (kd τ p 0) ≤ cw τ p ∧ rc τ (kd τ p 0) ≤ rc τ p ∧ wk τ (kd τ p 0) ≤ wk τ p
def NK12 (τ : St) (p : Int) : Prop := el τ 64 p = 1 ∧ gr τ (kd τ p 0) = gr τ p ∧ cw τ (kd τ p 0) ≤ cw τ p ∧ wk τ (kd τ p 0) ≤ wk τ p
def NK13 (τ : St) (p : Int) : Prop := el τ 64 p = 2 ∧ (1 ≤ el τ 69 p ∧ el τ 69 p ≤ 1000) ∧ gr τ (kd τ p 0) ∣ gr τ p ∧ gr τ (kd τ p 1) ∣ gr τ p ∧ sub τ p (kd τ p 0) ∧ sub τ p (kd τ p 1)
def NK15 (τ : St) (p : Int) : Prop := el τ 64 p = 2 ∧ gr τ (kd τ p 0) ∣ gr τ p ∧ gr τ (kd τ p 1) ∣ gr τ p ∧ cw τ (kd τ p 0) + cw τ (kd τ p 1) ≤ cw τ p ∧ rc τ (kd τ p 0) ≤ rc τ p ∧ rc τ (kd τ p 1) ≤ rc τ p ∧ wk τ (kd τ p 0) ≤ wk τ p ∧ wk τ (kd τ p 1) ≤ wk τ p
def NK17 (τ : St) (p : Int) : Prop := (el τ 64 p = 1 ∧ el τ 68 p = 0) ∧ (1 ≤ el τ 69 p ∧ el τ 69 p ≤ 64) ∧ gr τ (kd τ p 0) ∣ gr τ p ∧ el τ 69 p ∣ gr τ p ∧ 2 * cw τ (kd τ p 0) ≤ cw τ p ∧ rc τ (kd τ p 0) ≤ rc τ p ∧ wk τ (kd τ p 0) ≤ wk τ p
def NK18 (τ : St) (p : Int) : Prop := (el τ 64 p = 1 ∧ el τ 68 p = 0) ∧ (1 ≤ el τ 69 p ∧ el τ 69 p ≤ 64) ∧ gr τ p = el τ 69 p * gr τ (kd τ p 0) ∧ el τ 69 p * cw τ (kd τ p 0) * (rc τ (kd τ p 0) + 1) ≤ cw τ p ∧ rc τ (kd τ p 0) ≤ rc τ p ∧ wk τ (kd τ p 0) ≤ wk τ p
def NK19 (τ : St) (p : Int) : Prop := el τ 64 p = 1 ∧ (0 ≤ el τ 69 p ∧ el τ 69 p ≤ 1000) ∧ gr τ (kd τ p 0) = gr τ p ∧ sub τ p (kd τ p 0)
def NK20 (τ : St) (p : Int) : Prop := el τ 64 p = 1 ∧ (0 ≤ el τ 69 p ∧ el τ 69 p ≤ el τ 68 p) ∧ (1 ≤ el τ 68 p ∧ el τ 68 p ≤ 64) ∧ (0 ≤ el τ 67 p ∧ el τ 67 p ≤ el τ 66 p) ∧ (1 ≤ el τ 66 p ∧ el τ 66 p ≤ 64) ∧ 0 < spU τ p ∧ el τ 68 p ∣ gr τ p ∧ spD τ p / gC (spU τ p) (spD τ p) * gr τ (kd τ p 0) ∣ gr τ p ∧ sub τ p (kd τ p 0)
def NK23 (τ : St) (p m o : Int) : Prop := el τ 64 p = 2 ∧ gr τ m = gr τ p ∧ sub τ p m ∧ cw τ m * (rc τ o + 1) * wk τ o ≤ wk τ p
def NK (τ : St) (p : Int) : Prop :=
  (el τ 70 p = 1 ∧ NK1 τ p) ∨ (el τ 70 p = 2 ∧ NK2 τ p) ∨ (el τ 70 p = 3) ∨ (el τ 70 p = 4 ∧ NK4 τ p) ∨ (el τ 70 p = 5 ∧ NK5 τ p) ∨ (el τ 70 p = 6 ∧ NK6 τ p) ∨ (el τ 70 p = 7 ∧ NK7 τ p) ∨ (el τ 70 p = 8 ∧ NK8 τ p) ∨ (el τ 70 p = 9 ∧ NK9 τ p) ∨ (el τ 70 p = 10 ∧ NK10 τ p) ∨ (el τ 70 p = 11 ∧ NK10 τ p) ∨ (el τ 70 p = 12 ∧ NK12 τ p) ∨ (el τ 70 p = 13 ∧ NK13 τ p) ∨ (el τ 70 p = 14 ∧ NK13 τ p ∧ 0 ≤ el τ 68 p ∧ el τ 68 p ≤ 1000) ∨ (el τ 70 p = 15 ∧ NK15 τ p ∧ 1 ≤ el τ 69 p ∧ el τ 69 p ≤ 1000) ∨ (el τ 70 p = 16 ∧ NK15 τ p ∧ (0 ≤ el τ 69 p ∧ el τ 69 p ≤ 64) ∧ (1 ≤ el τ 68 p ∧ el τ 68 p ≤ 64) ∧ (0 ≤ el τ 67 p ∧ el τ 67 p ≤ 64) ∧ (1 ≤ el τ 66 p ∧ el τ 66 p ≤ 64)) ∨ (el τ 70 p = 17 ∧ NK17 τ p) ∨ (el τ 70 p = 18 ∧ NK18 τ p) ∨ (el τ 70 p = 19 ∧ NK19 τ p) ∨ (el τ 70 p = 20 ∧ NK20 τ p) ∨ (el τ 70 p = 21 ∧ NK19 τ p ∧ 0 ≤ el τ 68 p ∧ el τ 68 p ≤ 2100) ∨ (el τ 70 p = 22 ∧ NK19 τ p ∧ 0 ≤ el τ 68 p ∧ el τ 68 p ≤ 2100) ∨ (el τ 70 p = 23 ∧ NK23 τ p (kd τ p 0) (kd τ p 1)) ∨ (el τ 70 p = 24 ∧ NK23 τ p (kd τ p 1) (kd τ p 0)) ∨ (el τ 70 p = 25 ∧ NK23 τ p (kd τ p 0) (kd τ p 1) ∧ i32 (el τ 69 p))
def TN (τ : St) : Nat → Int → Prop
  | 0, _ => False
  | d + 1, p => (0 ≤ p ∧ p < fl τ 48 0 ∧ p < 103000) ∧ rng τ p ∧ (0 ≤ el τ 65 p ∧ 0 ≤ el τ 64 p ∧ el τ 65 p + el τ 64 p ≤ fl τ 61 0 ∧ el τ 65 p + el τ 64 p ≤ 210000) ∧ (∀ i, 0 ≤ i → i < el τ 64 p → TN τ d (kd τ p i)) ∧ NK τ p
theorem kidF_mem {τ : St} : ∀ {n : Nat} {a : Int} {k : Kid}, k ∈ kidF τ a n → ∃ i : Int, 0 ≤ i ∧ i < n ∧ k = (el τ 58 (a + i), el τ 57 (a + i) % 32, el τ 57 (a + i) / 32)
  | 0, _, _, h => by cases h
  | n + 1, a, k, h => by
    rcases List.mem_cons.1 h with rfl | h
    · exact ⟨0, Int.le_refl _, by omega, by rw [Int.add_zero]⟩
    · obtain ⟨i, h0, h1, rfl⟩ := kidF_mem h
      refine ⟨i + 1, by omega, by omega, ?_⟩
      rw [show a + (i + 1) = a + 1 + i by omega]
theorem kl_mem {τ : St} {p : Int} {k : Kid} (h : k ∈ kl τ p) : ∃ i, 0 ≤ i ∧ i < el τ 64 p ∧ k = (kd τ p i, el τ 57 (el τ 65 p + i) % 32, el τ 57 (el τ 65 p + i) / 32) := by
  obtain ⟨i, h0, h1, h2⟩ := kidF_mem h
  exact ⟨i, h0, by omega, h2⟩
theorem kidF_len (τ : St) : ∀ (n : Nat) (a : Int), (kidF τ a n).length = n
  | 0, _ => rfl
  | n + 1, a => by rw [kidF, List.length_cons, kidF_len]
theorem TN.kid {τ : St} {d : Nat} {p : Int} (h : TN τ (d + 1) p) {k : Kid} (hk : k ∈ kl τ p) : TN τ d k.1 := by
  obtain ⟨i, h0, h1, rfl⟩ := kl_mem hk
  exact h.2.2.2.1 i h0 h1
theorem TN.rng {τ : St} : ∀ {d : Nat} {p : Int}, TN τ d p → rng τ p
  | 0, _, h => h.elim
  | _ + 1, _, h => h.2.1
theorem TN.pos {τ : St} : ∀ {d : Nat} {p : Int}, TN τ d p → 0 ≤ p ∧ p < 103000
  | 0, _, h => h.elim
  | _ + 1, _, h => ⟨h.1.1, h.1.2.2⟩
/-! what a row is like -/
def Gu (lo hi len : Int) (l : List Evt) : Prop := ∀ e ∈ l, (lo ≤ e.1 ∧ e.1 < hi) ∧ (1 ≤ e.2.1 ∧ e.2.1 ≤ len) ∧ VO e.2.2
abbrev Srt (l : List Evt) : Prop := l.Pairwise (fun a b => a.1 ≤ b.1)
def Gd (lo hi len : Int) (l : List Evt) : Prop := Gu lo hi len l ∧ Srt l
theorem Gu.nil {lo hi len : Int} : Gu lo hi len [] := fun e h => by cases h
theorem Gd.nil {lo hi len : Int} : Gd lo hi len [] := ⟨Gu.nil, List.Pairwise.nil⟩
theorem Gu.app {lo hi len : Int} {l m : List Evt} (h : Gu lo hi len l) (k : Gu lo hi len m) : Gu lo hi len (l ++ m) := fun e he => (List.mem_append.1 he).elim (h e) (k e)
theorem Gu.wk {lo hi len lo' hi' len' : Int} {l : List Evt} (h : Gu lo hi len l) (a : lo' ≤ lo) (b : hi ≤ hi') (c : len ≤ len') : Gu lo' hi' len' l := fun e he => by
  obtain ⟨⟨h1, h2⟩, ⟨h3, h4⟩, h5⟩ := h e he
  exact ⟨⟨by omega, by omega⟩, ⟨h3, by omega⟩, h5⟩
theorem Gd.wk {lo hi len lo' hi' len' : Int} {l : List Evt} (h : Gd lo hi len l) (a : lo' ≤ lo) (b : hi ≤ hi') (c : len ≤ len') : Gd lo' hi' len' l := ⟨h.1.wk a b c, h.2⟩
theorem Gd.app {lo mid hi len : Int} {l m : List Evt} (h : Gd lo mid len l) (k : Gd mid hi len m) (h1 : lo ≤ mid) (h2 : mid ≤ hi) : Gd lo hi len (l ++ m) :=
  ⟨(h.1.wk (Int.le_refl _) h2 (Int.le_refl _)).app (k.1.wk h1 (Int.le_refl _) (Int.le_refl _)), List.pairwise_append.2 ⟨h.2, k.2, fun a ha b hb => by
    have := (h.1 a ha).1.2
    have := (k.1 b hb).1.1
    omega⟩⟩
theorem Gu.mvd {lo hi len k b : Int} {l : List Evt} (h : Gu lo hi len l) (hk : 1 ≤ k) : Gu (lo * k + b) (hi * k + b) (len * k) (mv k b l) := fun e he => by
  obtain ⟨e', h1, rfl⟩ := List.mem_map.1 he
  obtain ⟨⟨h1, h2⟩, ⟨h3, h4⟩, h5⟩ := h e' h1
  have a := Int.mul_le_mul_of_nonneg_right h1 (show (0 : Int) ≤ k by omega)
  have a2 := Int.mul_lt_mul_of_pos_right h2 (show (0 : Int) < k by omega)
  have a3 := Int.mul_le_mul_of_nonneg_right h3 (show (0 : Int) ≤ k by omega)
  have a4 := Int.mul_le_mul_of_nonneg_right h4 (show (0 : Int) ≤ k by omega)
  refine ⟨⟨?_, ?_⟩, ⟨?_, a4⟩, h5⟩
  · show lo * k + b ≤ e'.1 * k + b
    omega
  · show e'.1 * k + b < hi * k + b
    omega
  · show 1 ≤ e'.2.1 * k
    omega
theorem Srt.mvd {k b : Int} {l : List Evt} (h : Srt l) (hk : 1 ≤ k) : Srt (mv k b l) := by
  unfold Srt mv
  refine List.pairwise_map.2 (h.imp (fun {x y} hxy => ?_))
  have := Int.mul_le_mul_of_nonneg_right hxy (show (0 : Int) ≤ k by omega)
  show x.1 * k + b ≤ y.1 * k + b
  omega
theorem Gd.mvd {lo hi len k b : Int} {l : List Evt} (h : Gd lo hi len l) (hk : 1 ≤ k) : Gd (lo * k + b) (hi * k + b) (len * k) (mv k b l) := ⟨h.1.mvd hk, h.2.mvd hk⟩
theorem Gu.flt {lo hi len : Int} {l : List Evt} (h : Gu lo hi len l) (P : Evt → Bool) : Gu lo hi len (l.filter P) := fun e he => h e (List.mem_filter.1 he).1
theorem Gd.flt {lo hi len : Int} {l : List Evt} (h : Gd lo hi len l) (P : Evt → Bool) : Gd lo hi len (l.filter P) := ⟨h.1.flt P, h.2.sublist List.filter_sublist⟩
theorem Gu.win {lo hi len a b : Int} {l : List Evt} (h : Gu lo hi len l) : Gu a b len (l.filter (inW a b)) := fun e he => by
  have h1 := List.mem_filter.1 he
  have h2 := of_decide_eq_true h1.2
  obtain ⟨-, h3, h4⟩ := h e h1.1
  exact ⟨h2, h3, h4⟩
theorem Gu.srt {lo hi len : Int} {l : List Evt} (h : Gu lo hi len l) : Gd lo hi len (sortE l) := ⟨fun e he => h e ((isoL_perm ltE l).mem_iff.1 he), sortE_srt l⟩
theorem mv_len (k b : Int) (l : List Evt) : (mv k b l).length = l.length := List.length_map _
theorem flt_len (P : Evt → Bool) (l : List Evt) : (l.filter P).length ≤ l.length := List.length_filter_le _ _
/-- a good row of a pattern -/
def Good (τ : St) (p : Int) (l : List Evt) : Prop := (l.length : Int) ≤ cw τ p ∧ Gd 0 (gr τ p) (rc τ p * gr τ p) l
theorem dv_mul {a b : Int} (h : a ∣ b) : b / a * a = b := Int.ediv_mul_cancel h
theorem dv_pos {a b : Int} (h : a ∣ b) (ha : 1 ≤ a) (hb : 1 ≤ b) : 1 ≤ b / a := by
  have := dv_mul h
  rcases Int.lt_or_le 0 (b / a) with k | k
  · omega
  · have := Int.mul_le_mul_of_nonneg_right k (show (0 : Int) ≤ a by omega)
    omega
/-- the row of a kid, in the parts of its pattern -/
theorem Good.kid {τ : St} {q : Int} {l : List Evt} {G R : Int} (h : Good τ q l) (hq : 1 ≤ gr τ q) (hd : gr τ q ∣ G) (hG : 1 ≤ G) (hr : rc τ q ≤ R) : Gd 0 G (R * G) (mv (G / gr τ q) 0 l) := by
  have k1 := dv_pos hd hq hG
  have k2 := dv_mul hd
  have := h.2.mvd (b := 0) k1
  refine this.wk (by omega) ?_ ?_
  · rw [Int.mul_comm]; omega
  · rw [Int.mul_assoc, Int.mul_comm (gr τ q), k2]
    exact Int.mul_le_mul_of_nonneg_right hr (by omega)
