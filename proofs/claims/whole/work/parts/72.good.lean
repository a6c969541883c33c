/-! rows are good: in their cycle, in order, no more than the crowd -/
theorem repL_good {τ : St} {q : Int} {L : List Evt} {sh w M : Int} (hL : Good τ q L) (hq : 1 ≤ gr τ q) (hd : gr τ q ∣ sh) (hs : 1 ≤ sh) (hw : 1 ≤ w) (hM : rc τ q * (w * sh) ≤ M) : ∀ (n : Nat) (a : Int), Gd (a * sh) ((a + n * w) * sh) M (repL L (w * (sh / gr τ q)) sh w n a) ∧ ((repL L (w * (sh / gr τ q)) sh w n a).length : Int) ≤ n * cw τ q
  | 0, a => ⟨Gd.nil, by simp [repL]⟩
  | n + 1, a => by
    obtain ⟨i1, i2⟩ := repL_good hL hq hd hs hw hM n (a + w)
    have k1 := dv_pos hd hq hs
    have k2 := dv_mul hd
    have t1 : 1 ≤ w * (sh / gr τ q) := by
      have := Int.mul_le_mul_of_nonneg_right hw (show (0 : Int) ≤ sh / gr τ q by omega)
      omega
    have g1 := hL.2.mvd (b := a * sh) t1
    have e1 : gr τ q * (w * (sh / gr τ q)) = w * sh := by rw [Int.mul_left_comm, Int.mul_comm (gr τ q), k2]
    have g2 : Gd (a * sh) ((a + w) * sh) M (mv (w * (sh / gr τ q)) (a * sh) L) := by
      refine g1.wk (by omega) ?_ ?_
      · rw [e1, Int.add_mul]; omega
      · rw [Int.mul_assoc, e1]; exact hM
    have p1 : a * sh ≤ (a + w) * sh := Int.mul_le_mul_of_nonneg_right (by omega) (by omega)
    have p2 : (a + w) * sh ≤ (a + w + n * w) * sh := Int.mul_le_mul_of_nonneg_right (by
      have : 0 ≤ (n : Int) * w := Int.mul_nonneg (by omega) (by omega)
      omega) (by omega)
    have e2 : a + ((n + 1 : Nat) : Int) * w = a + w + n * w := by rw [Int.natCast_add, Int.add_mul]; omega
    refine ⟨?_, ?_⟩
    · rw [e2]
      exact g2.app i1 p1 p2
    · rw [repL, List.length_append, mv_len]
      have := hL.1
      have e3 : ((n + 1 : Nat) : Int) * cw τ q = n * cw τ q + cw τ q := by rw [Int.natCast_add, Int.add_mul]; omega
      rw [e3]; omega
theorem wS_pos : ∀ {l : List Kid}, (∀ k ∈ l, 1 ≤ k.2.1 ∧ 1 ≤ k.2.2) → 0 ≤ wS l ∧ ∀ k ∈ l, k.2.1 ≤ wS l
  | [], _ => ⟨Int.le_refl _, fun _ h => by cases h⟩
  | k :: l, h => by
    obtain ⟨a, b⟩ := wS_pos (l := l) (fun x hx => h x (by simp [hx]))
    obtain ⟨h1, h2⟩ := h k (by simp)
    have : k.2.1 ≤ k.2.1 * k.2.2 := by
      have := Int.mul_le_mul_of_nonneg_left h2 (show (0 : Int) ≤ k.2.1 by omega)
      omega
    refine ⟨by rw [wS]; omega, fun x hx => ?_⟩
    rw [wS]
    rcases List.mem_cons.1 hx with rfl | hx
    · omega
    · have := b x hx
      omega
theorem seqL_good {τ : St} {R : Int → List Evt} {sh M : Int} (hs : 1 ≤ sh) : ∀ (l : List Kid) (a : Int), (∀ k ∈ l, (1 ≤ k.2.1 ∧ 1 ≤ k.2.2) ∧ Good τ k.1 (R k.1) ∧ 1 ≤ gr τ k.1 ∧ gr τ k.1 ∣ sh ∧ rc τ k.1 * (k.2.1 * sh) ≤ M) → Gd (a * sh) ((a + wS l) * sh) M (seqL τ R sh l a) ∧ ((seqL τ R sh l a).length : Int) ≤ crS τ l
  | [], a, _ => ⟨Gd.nil, by simp [seqL, crS]⟩
  | k :: l, a, h => by
    obtain ⟨⟨h1, h2⟩, h3, h4, h5, h6⟩ := h k (by simp)
    obtain ⟨i1, i2⟩ := seqL_good hs l (a + k.2.1 * k.2.2) (fun x hx => h x (by simp [hx]))
    obtain ⟨j1, j2⟩ := repL_good h3 h4 h5 hs h1 h6 k.2.2.toNat a
    have e1 : (k.2.2.toNat : Int) = k.2.2 := Int.toNat_of_nonneg (by omega)
    rw [e1] at j1 j2
    have e2 : a + k.2.2 * k.2.1 = a + k.2.1 * k.2.2 := by rw [Int.mul_comm]
    rw [e2] at j1
    have wp := (wS_pos (l := l) (fun x hx => (h x (by simp [hx])).1)).1
    have mp : 0 ≤ k.2.1 * k.2.2 := Int.mul_nonneg (by omega) (by omega)
    refine ⟨?_, ?_⟩
    · rw [seqL]
      have := j1.app i1 (Int.mul_le_mul_of_nonneg_right (by omega) (by omega)) (Int.mul_le_mul_of_nonneg_right (by omega) (by omega))
      rw [show a + wS (k :: l) = a + k.2.1 * k.2.2 + wS l by rw [wS]; omega]
      exact this
    · rw [seqL, List.length_append, crS]; omega
theorem allL_good {τ : St} {R : Int → List Evt} {G Rr : Int} (hG : 1 ≤ G) : ∀ (l : List Kid), (∀ k ∈ l, k.2.2 = 1 ∧ Good τ k.1 (R k.1) ∧ 1 ≤ gr τ k.1 ∧ gr τ k.1 ∣ G ∧ rc τ k.1 ≤ Rr) → Gu 0 G (Rr * G) (allL τ R G l) ∧ ((allL τ R G l).length : Int) ≤ crS τ l
  | [], _ => ⟨Gu.nil, by simp [allL, crS]⟩
  | k :: l, h => by
    obtain ⟨h1, h2, h3, h4, h5⟩ := h k (by simp)
    obtain ⟨i1, i2⟩ := allL_good hG l (fun x hx => h x (by simp [hx]))
    refine ⟨(h2.kid h3 h4 hG h5).1.app i1, ?_⟩
    rw [allL, List.length_append, mv_len, crS, h1, Int.one_mul]
    have := h2.1
    omega
theorem katL_mem : ∀ {l : List Kid} (v : Int), l ≠ [] → ∃ k ∈ l, katL l v = k.1
  | [], _, h => (h rfl).elim
  | [k], v, _ => ⟨k, by simp, rfl⟩
  | k :: k' :: l, v, _ => by
    rw [katL]
    split
    · exact ⟨k, by simp, rfl⟩
    · obtain ⟨x, hx, h⟩ := katL_mem (l := k' :: l) (v - k.2.1 * k.2.2) (by simp)
      exact ⟨x, by simp only [List.mem_cons] at hx ⊢; exact Or.inr hx, h⟩
    · intro h; cases h
theorem polL_good {τ : St} {R : Int → Int → List Evt} {l : List Kid} {c n sh M C : Int} (hs : 1 ≤ sh) (hl : l ≠ []) (h : ∀ k ∈ l, (∀ c, Good τ k.1 (R k.1 c)) ∧ 1 ≤ gr τ k.1 ∧ gr τ k.1 ∣ sh ∧ rc τ k.1 * sh ≤ M ∧ cw τ k.1 ≤ C) : ∀ (m : Nat) (k : Int), Gd (k * sh) ((k + m) * sh) M (polL τ R l c n sh m k) ∧ ((polL τ R l c n sh m k).length : Int) ≤ m * C
  | 0, k => ⟨Gd.nil, by simp [polL]⟩
  | m + 1, k => by
    obtain ⟨i1, i2⟩ := polL_good (c := c) (n := n) hs hl h m (k + 1)
    obtain ⟨x, hx, hk⟩ := katL_mem ((c * n + k) % wS l) hl
    obtain ⟨h1, h2, h3, h4, h5⟩ := h x hx
    have k1 := dv_pos h3 h2 hs
    have k2 := dv_mul h3
    have g1 := (h1 ((c * n + k) / wS l)).2.mvd (b := k * sh) k1
    have e1 : gr τ x.1 * (sh / gr τ x.1) = sh := by rw [Int.mul_comm, k2]
    have g2 : Gd (k * sh) ((k + 1) * sh) M (mv (sh / gr τ x.1) (k * sh) (R x.1 ((c * n + k) / wS l))) := by
      refine g1.wk (by omega) ?_ ?_
      · rw [e1, Int.add_mul]; omega
      · rw [Int.mul_assoc, e1]; exact h4
    refine ⟨?_, ?_⟩
    · rw [polL, hk, show k + ((m + 1 : Nat) : Int) = k + 1 + m by omega]
      exact g2.app i1 (Int.mul_le_mul_of_nonneg_right (by omega) (by omega)) (Int.mul_le_mul_of_nonneg_right (by omega) (by omega))
    · rw [polL, hk, List.length_append, mv_len]
      have := (h1 ((c * n + k) / wS l)).1
      have e3 : ((m + 1 : Nat) : Int) * C = m * C + C := by rw [Int.natCast_add, Int.add_mul]; omega
      rw [e3]; omega
/-- how many of n steps sound -/
def sprN (a n t : Int) : Nat → Int → Int
  | 0, _ => 0
  | m + 1, k => (if (k + t) % n * a % n < a then 1 else 0) + sprN a n t m (k + 1)
theorem spr_key {X a n : Int} (hn : 1 ≤ n) (ha : 0 ≤ a) (han : a ≤ n) : (if X % n < a then 1 else 0) * n = a + (X - a) % n - X % n := by
  have x0 := Int.emod_nonneg X (show n ≠ 0 by omega)
  have x1 := Int.emod_lt_of_pos X (show 0 < n by omega)
  have d1 := Int.emod_add_mul_ediv X n
  split
  · have : (X - a) % n = X % n - a + n := by
      rw [show X - a = (X % n - a + n) + n * (X / n - 1) by rw [Int.mul_sub]; omega, Int.add_mul_emod_self_left]
      exact Int.emod_eq_of_lt (by omega) (by omega)
    omega
  · have : (X - a) % n = X % n - a := by
      rw [show X - a = (X % n - a) + n * (X / n) by omega, Int.add_mul_emod_self_left]
      exact Int.emod_eq_of_lt (by omega) (by omega)
    omega
theorem sprN_eq {a n t : Int} (hn : 1 ≤ n) (ha : 0 ≤ a) (han : a ≤ n) : ∀ (m : Nat) (k : Int), sprN a n t m k * n = m * a + ((k + t - 1) * a) % n - ((k + m + t - 1) * a) % n
  | 0, k => by simp [sprN]
  | m + 1, k => by
    have ih := sprN_eq (t := t) hn ha han m (k + 1)
    rw [sprN, Int.add_mul]
    have e1 : (k + t) % n * a % n = (k + t) * a % n := by rw [Int.mul_emod, Int.emod_emod_of_dvd _ (Int.dvd_refl n), ← Int.mul_emod]
    have key := spr_key (X := (k + t) * a) hn ha han
    have e2 : (k + t) * a - a = (k + t - 1) * a := by rw [Int.sub_mul]; omega
    have e3 : k + ((m + 1 : Nat) : Int) + t - 1 = k + 1 + m + t - 1 := by omega
    have e4 : ((m + 1 : Nat) : Int) * a = m * a + a := by rw [Int.natCast_add, Int.add_mul]; omega
    rw [show k + 1 + t - 1 = k + t by omega] at ih
    rw [e1, e3, e4, key, ih, e2]
    omega
theorem sprN_n {a n t : Int} (hn : 1 ≤ n) (ha : 0 ≤ a) (han : a ≤ n) : sprN a n t n.toNat 0 = a := by
  have h := sprN_eq (t := t) hn ha han n.toNat 0
  have e : (n.toNat : Int) = n := Int.toNat_of_nonneg (by omega)
  rw [e, show (0 + n + t - 1) * a = (0 + t - 1) * a + n * a by rw [← Int.add_mul]; congr 1; omega, Int.add_mul_emod_self_left] at h
  have h2 : sprN a n t n.toNat 0 * n = a * n := by rw [h, Int.mul_comm n a]; omega
  exact Int.eq_of_mul_eq_mul_right (by omega) h2
theorem sprL_good {τ : St} {q : Int} {L : List Evt} {a n t Rr : Int} (hL : Good τ q L) (hq : 1 ≤ gr τ q) (hr : rc τ q ≤ Rr) (h0 : 0 ≤ Rr) (hn : 1 ≤ n) : ∀ (m : Nat) (k : Int), Gd (k * gr τ q) ((k + m) * gr τ q) (Rr * (n * gr τ q)) (sprL L a n t (gr τ q) m k) ∧ ((sprL L a n t (gr τ q) m k).length : Int) ≤ sprN a n t m k * cw τ q
  | 0, k => ⟨Gd.nil, by simp [sprL, sprN]⟩
  | m + 1, k => by
    obtain ⟨i1, i2⟩ := sprL_good (a := a) (t := t) hL hq hr h0 hn m (k + 1)
    have hR1 : rc τ q * gr τ q ≤ Rr * (n * gr τ q) := by
      have a1 : rc τ q * gr τ q ≤ Rr * gr τ q := Int.mul_le_mul_of_nonneg_right hr (by omega)
      have a2 : Rr * gr τ q ≤ Rr * (n * gr τ q) := Int.mul_le_mul_of_nonneg_left (by
        have := Int.mul_le_mul_of_nonneg_right hn (show (0 : Int) ≤ gr τ q by omega)
        omega) h0
      omega
    have g1 := hL.2.mvd (b := k * gr τ q) (Int.le_refl 1)
    have g2 : Gd (k * gr τ q) ((k + 1) * gr τ q) (Rr * (n * gr τ q)) (if (k + t) % n * a % n < a then mv 1 (k * gr τ q) L else []) := by
      split
      · refine g1.wk (by omega) ?_ (by omega)
        rw [Int.add_mul]; omega
      · exact Gd.nil
    refine ⟨?_, ?_⟩
    · rw [sprL, show k + ((m + 1 : Nat) : Int) = k + 1 + m by omega]
      exact g2.app i1 (Int.mul_le_mul_of_nonneg_right (by omega) (by omega)) (Int.mul_le_mul_of_nonneg_right (by omega) (by omega))
    · rw [sprL, sprN, List.length_append, Int.add_mul]
      have := hL.1
      split
      · rw [mv_len]; omega
      · simp only [List.length_nil]; omega
/-- rows of a kid one behind the other: they don't overlap -/
theorem rwsL_good {R : Int → List Evt} {k g M C G : Int} {b : Int → Int} (hk : 1 ≤ k) (hb : ∀ j, b (j + 1) = b j + g * k) (hC : ∀ j, ((R j).length : Int) ≤ C) (hR : ∀ j, Gd 0 g M (R j)) : ∀ (m : Nat) (j : Int), Gd 0 G (M * k) (rwsL R k b G m j) ∧ (∀ e ∈ rwsL R k b G m j, b j ≤ e.1) ∧ ((rwsL R k b G m j).length : Int) ≤ m * C
  | 0, j => ⟨Gd.nil, fun e h => (by cases h), by simp [rwsL]⟩
  | m + 1, j => by
    obtain ⟨⟨i1, i2⟩, i3, i4⟩ := rwsL_good (G := G) hk hb hC hR m (j + 1)
    have g1 := (hR j).mvd (b := b j) hk
    have g2 := g1.flt (inW 0 G)
    have g3 : Gu 0 G (M * k) ((mv k (b j) (R j)).filter (inW 0 G)) := g1.1.win
    have e1 := hb j
    refine ⟨⟨g3.app i1, List.pairwise_append.2 ⟨g2.2, i2, fun x hx y hy => ?_⟩⟩, fun e he => ?_, ?_⟩
    · have a := (g2.1 x hx).1.2
      have b := i3 y hy
      omega
    · rcases List.mem_append.1 he with he | he
      · have := (g2.1 e he).1.1
        omega
      · have := i3 e he
        have g0 : 0 ≤ g * k := by
          by_cases hg : 0 ≤ g
          · exact Int.mul_nonneg hg (by omega)
          · -- no row has an event then
            exfalso
            have : ∀ (m : Nat) (j : Int), rwsL R k b G m j = [] := by
              intro m
              induction m with
              | zero => intro j; rfl
              | succ m ih =>
                intro j
                have : R j = [] := List.eq_nil_iff_forall_not_mem.2 (fun x hx => by
                  have := ((hR j).1 x hx).1
                  omega)
                rw [rwsL, ih, this]
                rfl
            rw [this] at he
            cases he
        omega
    · rw [rwsL, List.length_append]
      have l1 := flt_len (inW 0 G) (mv k (b j) (R j))
      rw [mv_len] at l1
      have := hC j
      have e3 : ((m + 1 : Nat) : Int) * C = m * C + C := by rw [Int.natCast_add, Int.add_mul]; omega
      rw [e3]; omega
theorem plyE_good {n G o M : Int} {e : Evt} (h1 : 1 ≤ e.2.1 ∧ e.2.1 ≤ M) (h2 : VO e.2.2) : ∀ (m : Nat) (k : Int), Gu 0 G M (plyE n G o e m k) ∧ ((plyE n G o e m k).length : Int) ≤ m
  | 0, _ => ⟨Gu.nil, by simp [plyE]⟩
  | m + 1, k => by
    obtain ⟨i1, i2⟩ := plyE_good (n := n) (G := G) (o := o) h1 h2 m (k + 1)
    rw [plyE]
    refine ⟨Gu.app ?_ i1, ?_⟩
    · split
      · rename_i h
        intro x hx
        rw [List.mem_singleton.1 hx]
        exact ⟨h, h1, h2⟩
      · exact Gu.nil
    · rw [List.length_append]
      split
      · simp only [List.length_cons, List.length_nil]; omega
      · simp only [List.length_nil]; omega
theorem plyR_good {n G o M g : Int} (hn : 1 ≤ n) : ∀ {l : List Evt}, Gu 0 g M l → Gu 0 G M (plyR n G o l) ∧ ((plyR n G o l).length : Int) ≤ n * l.length
  | [], _ => ⟨Gu.nil, by simp [plyR]⟩
  | e :: l, h => by
    obtain ⟨-, h1, h2⟩ := h e (by simp)
    obtain ⟨i1, i2⟩ := plyR_good (n := n) (G := G) (o := o) (g := g) (M := M) hn (l := l) (fun x hx => h x (by simp [hx]))
    obtain ⟨j1, j2⟩ := plyE_good (n := n) (G := G) (o := o) h1 h2 n.toNat 0
    rw [plyR]
    refine ⟨j1.app i1, ?_⟩
    rw [List.length_append, List.length_cons]
    have e1 : n * ((l.length + 1 : Nat) : Int) = n * l.length + n := by rw [Int.natCast_add, Int.mul_add]; omega
    rw [e1]; omega
theorem plyL_good {R : Int → List Evt} {n G c M g C : Int} (hn : 1 ≤ n) (hC : ∀ j, ((R j).length : Int) ≤ C) (hR : ∀ j, Gu 0 g M (R j)) : ∀ (m : Nat) (j : Int), Gu 0 G M (plyL R n G c m j) ∧ ((plyL R n G c m j).length : Int) ≤ m * (n * C)
  | 0, _ => ⟨Gu.nil, by simp [plyL]⟩
  | m + 1, j => by
    obtain ⟨i1, i2⟩ := plyL_good (G := G) (c := c) hn hC hR m (j + 1)
    obtain ⟨j1, j2⟩ := plyR_good (n := n) (G := G) (o := (j - c) * G) hn (hR j)
    rw [plyL]
    refine ⟨j1.app i1, ?_⟩
    rw [List.length_append]
    have a1 := Int.mul_le_mul_of_nonneg_left (hC j) (show (0 : Int) ≤ n by omega)
    have e3 : ((m + 1 : Nat) : Int) * (n * C) = m * (n * C) + n * C := by rw [Int.natCast_add, Int.add_mul]; omega
    rw [e3]; omega
theorem revL_good {G M : Int} {l : List Evt} (h : Gu 0 G M l) (hM : 1 ≤ G) : Gu 0 G G (revL G l) := fun e he => by
  obtain ⟨x, hx, rfl⟩ := List.mem_map.1 he
  obtain ⟨⟨h1, h2⟩, ⟨h3, h4⟩, h5⟩ := h x hx
  refine ⟨⟨?_, ?_⟩, ⟨?_, ?_⟩, h5⟩
  · show 0 ≤ G - min G (x.1 + x.2.1); omega
  · show G - min G (x.1 + x.2.1) < G; omega
  · show 1 ≤ min G (x.1 + x.2.1) - x.1; omega
  · show min G (x.1 + x.2.1) - x.1 ≤ G; omega
theorem rotL_good {lo hi len : Int} {l : List Evt} {n : Nat} (h : Gd lo hi len l) : Gd lo hi len (rotL n l) ∧ (rotL n l).length = l.length := by
  have hm : ∀ (a b : List Evt), (∀ x ∈ b, VO x.2.2) → Gd lo hi len a → Gd lo hi len (List.zipWith (fun e (f : Evt) => (e.1, e.2.1, f.2.2)) a b) := by
    intro a
    induction a with
    | nil => intro b _ _; simpa using Gd.nil
    | cons x a ih =>
      intro b hb ha
      cases b with
      | nil => simpa using Gd.nil
      | cons y b =>
        have ha2 : Gd lo hi len a := ⟨fun e he => ha.1 e (by simp [he]), (List.pairwise_cons.1 ha.2).2⟩
        have i := ih b (fun z hz => hb z (by simp [hz])) ha2
        rw [List.zipWith_cons_cons]
        refine ⟨fun e he => ?_, List.pairwise_cons.2 ⟨fun z hz => ?_, i.2⟩⟩
        · rcases List.mem_cons.1 he with rfl | he
          · obtain ⟨h1, h2, h3⟩ := ha.1 x (by simp)
            exact ⟨h1, h2, hb y (by simp)⟩
          · exact i.1 e he
        · obtain ⟨u, v, hu, hv, rfl⟩ : ∃ u v, u ∈ a ∧ v ∈ b ∧ z = (u.1, u.2.1, v.2.2) := by
            clear i ih hb ha ha2
            induction a generalizing b with
            | nil => simp at hz
            | cons u a ih2 =>
              cases b with
              | nil => simp at hz
              | cons v b =>
                rw [List.zipWith_cons_cons] at hz
                rcases List.mem_cons.1 hz with rfl | hz
                · exact ⟨u, v, by simp, by simp, rfl⟩
                · obtain ⟨u', v', a1, a2, a3⟩ := ih2 b hz
                  exact ⟨u', v', by simp [a1], by simp [a2], a3⟩
          exact (List.pairwise_cons.1 ha.2).1 u hu
  have hl : (rtl n l).length = l.length := by
    unfold rtl
    simp only [List.length_append, List.length_drop, List.length_take]
    rcases Nat.eq_zero_or_pos l.length with h0 | h0
    · omega
    · have := Nat.mod_lt n h0
      omega
  refine ⟨hm l _ (fun x hx => ?_) h, by rw [rotL, List.length_zipWith, hl, Nat.min_self]⟩
  have : x ∈ l := by
    unfold rtl at hx
    rcases List.mem_append.1 hx with hx | hx
    · exact List.mem_of_mem_drop hx
    · exact List.mem_of_mem_take hx
  exact (h.1 x this).2.2
theorem lstL_mem {P : Evt → Bool} : ∀ {l : List Evt} {v : Vl}, lstL P l = some v → ∃ e ∈ l, e.2.2 = v
  | [], _, h => by cases h
  | e :: l, v, h => by
    rw [lstL] at h
    split at h
    · rename_i w hw
      obtain ⟨x, hx, h2⟩ := lstL_mem hw
      cases h
      exact ⟨x, by simp [hx], h2⟩
    · split at h
      · cases h
        exact ⟨e, by simp, rfl⟩
      · cases h
theorem fndL_mem {R : Int → List Evt} {g h t c : Int} : ∀ {m : Nat} {j : Int} {v : Vl}, fndL R g h t c m j = some v → ∃ j, ∃ e ∈ R j, e.2.2 = v
  | 0, _, _, h => by cases h
  | m + 1, j, v, h => by
    rw [fndL] at h
    split at h
    · rename_i w hw
      cases h
      exact ⟨j, lstL_mem hw⟩
    · exact fndL_mem h
