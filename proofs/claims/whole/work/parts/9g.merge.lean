/-! what is heard: merging (class), and insertion -/
section IL
variable {α : Type} {lt : α → α → Bool}
theorem isoA_app : ∀ (l m acc : List α), isoA lt acc (l ++ m) = isoA lt (isoA lt acc l) m
  | [], _, _ => rfl
  | x :: l, m, acc => by rw [List.cons_append, isoA, isoA, isoA_app l m]
theorem insL_last {x a : α} (h : lt x a = true) : ∀ X : List α, insL lt x (X ++ [a]) = insL lt x X ++ [a]
  | [] => by
    show (if lt x a = true then [x, a] else a :: insL lt x []) = [x] ++ [a]
    rw [if_pos h]; rfl
  | y :: X => by
    rw [List.cons_append, insL, insL]
    split
    · rfl
    · rw [insL_last h X]; rfl
theorem isoA_last {a : α} : ∀ (B A : List α), (∀ b ∈ B, lt b a = true) → isoA lt (A ++ [a]) B = isoA lt A B ++ [a]
  | [], _, _ => rfl
  | b :: B, A, h => by rw [isoA, isoA, insL_last (h b (by simp)), isoA_last B _ (fun x hx => h x (by simp [hx]))]
theorem isoA_end {b : α} {A B : List α} (h : ∀ y ∈ A ++ B, lt b y = false) : isoA lt A (B ++ [b]) = isoA lt A B ++ [b] := by
  rw [isoA_app]
  show insL lt b (isoA lt A B) = _
  exact insL_end (fun y hy => h y ((isoA_perm lt B A).mem_iff.1 hy))
theorem insL_take {x : α} : ∀ (k : Nat) (A : List α), (insL lt x A).take k = (insL lt x (A.take k)).take k
  | 0, _ => rfl
  | k + 1, [] => rfl
  | k + 1, y :: A => by
    rw [List.take_succ_cons, insL, insL]
    split
    · rw [List.take_succ_cons, List.take_succ_cons]
      congr 1
      cases k with
      | zero => rfl
      | succ k => rw [List.take_succ_cons, List.take_succ_cons, List.take_take]; congr 2; omega
    · rw [List.take_succ_cons, List.take_succ_cons, insL_take k A]
theorem isoA_take (k : Nat) : ∀ (B A : List α), (isoA lt A B).take k = (isoA lt (A.take k) B).take k
  | [], A => by show A.take k = (A.take k).take k; rw [List.take_take]; congr 1; omega
  | x :: B, A => by rw [isoA, isoA, isoA_take k B (insL lt x A), insL_take, ← isoA_take k B]
theorem isoA_len (B A : List α) : (isoA lt A B).length = A.length + B.length := by rw [(isoA_perm lt B A).length_eq, List.length_append]
end IL
/-- what is heard: track, cycle, grain, event -/
abbrev Ht : Type := Int × Int × Int × Evt
def ltH (a b : Ht) : Bool := decide (a.2.2.2.1 * b.2.2.1 < b.2.2.2.1 * a.2.2.1)
abbrev SrtH (l : List Ht) : Prop := l.Pairwise (fun a b => ltH b a = false)
def okH (h : Ht) : Prop := (0 ≤ h.1 ∧ h.1 < 8) ∧ i32 h.2.1 ∧ (1 ≤ h.2.2.1 ∧ h.2.2.1 ≤ 1000000) ∧ (0 ≤ h.2.2.2.1 ∧ h.2.2.2.1 < h.2.2.1) ∧ (1 ≤ h.2.2.2.2.1 ∧ h.2.2.2.2.1 ≤ 64000000) ∧ VO h.2.2.2.2.2
theorem leH {a b : Ht} : ltH b a = false ↔ a.2.2.2.1 * b.2.2.1 ≤ b.2.2.2.1 * a.2.2.1 := by
  unfold ltH
  rw [decide_eq_false_iff_not]
  omega
theorem leH_trans {a b c : Ht} (ha : 1 ≤ a.2.2.1) (hb : 1 ≤ b.2.2.1) (hc : 1 ≤ c.2.2.1) (h1 : ltH b a = false) (h2 : ltH c b = false) : ltH c a = false := by
  rw [leH] at h1 h2 ⊢
  have k1 := Int.mul_le_mul_of_nonneg_right h1 (show 0 ≤ c.2.2.1 by omega)
  have k2 := Int.mul_le_mul_of_nonneg_right h2 (show 0 ≤ a.2.2.1 by omega)
  refine Int.le_of_mul_le_mul_right (a := b.2.2.1) ?_ (by omega)
  rw [Int.mul_right_comm] at k1
  rw [Int.mul_right_comm b.2.2.2.1 a.2.2.1] at k1
  rw [Int.mul_right_comm c.2.2.2.1 b.2.2.1] at k2
  omega
theorem ltH_asymm {a b : Ht} (h : ltH a b = true) : ltH b a = false := by
  unfold ltH at h ⊢
  rw [decide_eq_true_iff] at h
  rw [decide_eq_false_iff_not]
  omega
theorem insH_srt {x : Ht} (hx : 1 ≤ x.2.2.1) : ∀ {l : List Ht}, SrtH l → (∀ y ∈ l, 1 ≤ y.2.2.1) → SrtH (insL ltH x l)
  | [], _, _ => by rw [insL]; exact List.pairwise_singleton _ _
  | y :: l, h, hg => by
    have h1 := List.pairwise_cons.1 h
    rw [insL]
    split
    · next c =>
      refine List.pairwise_cons.2 ⟨fun z hz => ?_, h⟩
      have xy := ltH_asymm c
      rcases List.mem_cons.1 hz with rfl | hz
      · exact xy
      · exact leH_trans hx (hg y (by simp)) (hg z (by simp [hz])) xy (h1.1 z hz)
    · next c =>
      refine List.pairwise_cons.2 ⟨fun z hz => ?_, insH_srt hx h1.2 (fun z hz => hg z (by simp [hz]))⟩
      rcases List.mem_cons.1 ((insL_perm ltH x l).mem_iff.1 hz) with rfl | hz
      · exact Bool.eq_false_iff.2 c
      · exact h1.1 z hz
theorem isoH_srt : ∀ {B A : List Ht}, SrtH A → (∀ y ∈ A ++ B, 1 ≤ y.2.2.1) → SrtH (isoA ltH A B)
  | [], _, h, _ => h
  | x :: B, A, h, hg => by
    rw [isoA]
    refine isoH_srt (insH_srt (hg x (by simp)) h (fun y hy => hg y (by simp [hy]))) (fun y hy => ?_)
    rcases List.mem_append.1 hy with hy | hy
    · rcases List.mem_cons.1 ((insL_perm ltH x A).mem_iff.1 hy) with rfl | hy
      · exact hg y (by simp)
      · exact hg y (by simp [hy])
    · exact hg y (by simp [hy])
/-- one that the class keeps as heard -/
def HE (σ : St) (k : Int) (h : Ht) : Prop := el σ 34 k = h.1 ∧ el σ 35 k = h.2.1 ∧ el σ 38 k = h.2.2.1 ∧ el σ 36 k = h.2.2.2.1 ∧ el σ 37 k = h.2.2.2.2.1 ∧ RV (el σ 39 k) (el σ 40 k) (el σ 41 k) h.2.2.2.2.2
theorem HE.of {σ σ' : St} {l : List Ht} {a : Int} (h : ∀ b j, a ≤ j → j < a + l.length → el σ' b j = el σ b j) (k : At (HE σ) a l) : At (HE σ') a l := k.mono (fun i e a1 a2 _ h1 => by
  unfold HE at h1 ⊢
  rw [h 34 i a1 a2, h 35 i a1 a2, h 36 i a1 a2, h 37 i a1 a2, h 38 i a1 a2, h 39 i a1 a2, h 40 i a1 a2, h 41 i a1 a2]
  exact h1)
theorem se_take (σ : St) (k v1 v2 v3 v4 v5 v6 v7 v8 : Int) (a j : Int) (h : a < 34 ∨ 41 < a ∨ j ≠ k) : el (se (se (se (se (se (se (se (se σ 36 k v1) 37 k v2) 39 k v3) 40 k v4) 41 k v5) 38 k v6) 34 k v7) 35 k v8) a j = el σ a j := by
  simp only [el_se]
  rw [if_neg (by omega), if_neg (by omega), if_neg (by omega), if_neg (by omega), if_neg (by omega), if_neg (by omega), if_neg (by omega), if_neg (by omega)]
theorem se_move (σ : St) (k v1 v2 v3 v4 v5 v6 v7 v8 : Int) (a j : Int) (h : a < 34 ∨ 41 < a ∨ j ≠ k) : el (se (se (se (se (se (se (se (se σ 34 k v1) 35 k v2) 36 k v3) 37 k v4) 38 k v5) 39 k v6) 40 k v7) 41 k v8) a j = el σ a j := by
  simp only [el_se]
  rw [if_neg (by omega), if_neg (by omega), if_neg (by omega), if_neg (by omega), if_neg (by omega), if_neg (by omega), if_neg (by omega), if_neg (by omega)]
section KH
variable {N : Nat} {π : Sh}
/-- merging, from the back -/
theorem kh_lp {g t c : Int} {F : Nat} {S : Int} (hS : SHs π) (hF : F ≤ 400) (hg : 1 ≤ g ∧ g ≤ 1000000) (hSb : 0 ≤ S ∧ S ≤ 800) (hSm : i32 S) {T : Int} (hT : 0 ≤ T ∧ T ≤ 6000) : ∀ (s n : Nat) (A : List Ht) (B : List Evt) (R : List Ht) (σ : St), A.length + B.length = s → s < n → F + A.length ≤ 400 → B.length ≤ 6000 → At (HE σ) F A → At (CE σ) 0 B → At (HE σ) (F + (A.length + B.length)) (R.take (400 - F - (A.length + B.length))) → SrtH A → Srt B → (∀ y ∈ A, okH y) → (∀ e ∈ B, 0 ≤ e.1 ∧ e.1 ≤ 1000000) → fl σ 46 10 = T → fl σ 68 33 = S → ∃ σ', Kh_merge_29 N π n σ 10 g t c F (F + A.length - 1) (B.length - 1) (F + (A.length + B.length) - 1) = some σ' ∧ (∀ f i, f ≠ 68 ∨ i ≠ 33 → fl σ' f i = fl σ f i) ∧ fl σ' 68 33 = min 400 (S + T) ∧ (∀ a j : Int, a < 34 ∨ 41 < a ∨ j < F → el σ' a j = el σ a j) ∧ At (HE σ') F ((isoA ltH A (B.map (fun e => ((t, c, g, e) : Ht))) ++ R).take (400 - F)) := by
  have hob : ob π 10 2 := hS.ob (i := 10) (by decide) rfl
  intro s
  induction s with
  | zero =>
    intro n A B R σ hs hn hA4 hB4 hA hB hR sA sB bA bB h46 h68
    cases n with
    | zero => omega
    | succ n =>
      have a0 : A = [] := List.length_eq_zero_iff.1 (by omega)
      have b0 : B = [] := List.length_eq_zero_iff.1 (by omega)
      subst a0 b0
      refine ⟨sf σ 68 33 (min 400 (S + T)), ?_, fun f i hf => by rw [fl_sf, if_neg (by omega)], fl_sfs _ _ _ _, fun _ _ _ => rfl, ?_⟩
      · simp only [List.length_nil]
        rw [Kh_merge_29, grd_t (by exact ⟨by omega, by omega⟩), grd_t (by exact ⟨by omega, by omega⟩), if_pos (by omega), Kh_merge_142, grd_t hob, h68, h46, grd_t (by exact ⟨by omega, by omega⟩)]
      · simp only [List.length_nil] at hR
        rw [show (F : Int) + (((0 : Nat) : Int) + ((0 : Nat) : Int)) = F by omega] at hR
        exact hR
  | succ s ih =>
    intro n A B R σ hs hn hA4 hB4 hA hB hR sA sB bA bB h46 h68
    cases n with
    | zero => omega
    | succ n =>
      by_cases b0 : B = []
      · -- nothing new is left
        subst b0
        simp only [List.length_nil] at hs hR ⊢
        refine ⟨sf σ 68 33 (min 400 (S + T)), ?_, fun f i hf => by rw [fl_sf, if_neg (by omega)], fl_sfs _ _ _ _, fun _ _ _ => rfl, ?_⟩
        · rw [Kh_merge_29, grd_t (by exact ⟨by omega, by omega⟩), grd_t (by exact ⟨by omega, by omega⟩), if_neg (by omega), grd_t (by decide), if_pos (by decide), Kh_merge_142, grd_t hob, h68, h46, grd_t (by exact ⟨by omega, by omega⟩)]
        · show At (HE σ) F ((A ++ R).take (400 - F))
          rw [List.take_append]
          have e1 : A.take (400 - F) = A := List.take_of_length_le (by omega)
          rw [e1]
          refine At.app hA ?_
          rw [show (F : Int) + ((A.length : Int) + ((0 : Nat) : Int)) = F + A.length by omega, Nat.add_zero] at hR
          exact hR
      · obtain ⟨B', b, rfl⟩ : ∃ B' b, B = B' ++ [b] := ⟨B.dropLast, B.getLast b0, (List.dropLast_concat_getLast b0).symm⟩
        have lb : ((B' ++ [b]).length : Int) = B'.length + 1 := by simp
        have lb' : (B' ++ [b]).length = B'.length + 1 := by simp
        have hb : CE σ B'.length b := by
          have := hB.rt.1
          rw [Int.zero_add] at this
          exact this
        have bz := hb.2.2.z
        have bb := bB b (by simp)
        have sB' := (List.pairwise_append.1 sB)
        rw [lb, lb'] at hR
        -- taking the last of the new
        have take : (∀ y ∈ A, ltH (t, c, g, b) y = false) → ∃ σ', Kh_merge_90 N π (Kh_merge_29 N π n) σ 10 g t c F (F + A.length - 1) B'.length (F + (A.length + B'.length)) = some σ' ∧ (∀ f i, f ≠ 68 ∨ i ≠ 33 → fl σ' f i = fl σ f i) ∧ fl σ' 68 33 = min 400 (S + T) ∧ (∀ a j : Int, a < 34 ∨ 41 < a ∨ j < F → el σ' a j = el σ a j) ∧ At (HE σ') F ((isoA ltH A ((B' ++ [b]).map (fun e => ((t, c, g, e) : Ht))) ++ R).take (400 - F)) := by
          intro hle
          have ei : isoA ltH A ((B' ++ [b]).map (fun e => ((t, c, g, e) : Ht))) ++ R = isoA ltH A (B'.map (fun e => ((t, c, g, e) : Ht))) ++ ((t, c, g, b) :: R) := by
            rw [List.map_append, List.map_cons, List.map_nil, isoA_end]
            · rw [List.append_assoc]; rfl
            · intro y hy
              rcases List.mem_append.1 hy with hy | hy
              · exact hle y hy
              · obtain ⟨e, he, rfl⟩ := List.mem_map.1 hy
                rw [leH]
                have := sB'.2.2 e he b (by simp)
                exact Int.mul_le_mul_of_nonneg_right this (by show 0 ≤ g; omega)
          rw [ei]
          by_cases c4 : (F : Int) + (A.length + B'.length) < 400
          · obtain ⟨σ', z1, z2, z3, z4, z5⟩ := ih n A B' ((t, c, g, b) :: R) (se (se (se (se (se (se (se (se σ 36 (F + (A.length + B'.length)) (el σ 11 B'.length)) 37 (F + (A.length + B'.length)) (el σ 12 B'.length)) 39 (F + (A.length + B'.length)) (el σ 13 B'.length)) 40 (F + (A.length + B'.length)) (el σ 14 B'.length)) 41 (F + (A.length + B'.length)) (el σ 15 B'.length)) 38 (F + (A.length + B'.length)) g) 34 (F + (A.length + B'.length)) t) 35 (F + (A.length + B'.length)) c) (by rw [lb'] at hs; omega) (by omega) hA4 (by omega) (HE.of (fun a j j0 j1 => se_take _ _ _ _ _ _ _ _ _ _ _ _ (by omega)) hA) (hB.l.mono (fun i e i0 i1 _ he => by
                unfold CE at he ⊢
                rw [se_take _ _ _ _ _ _ _ _ _ _ _ _ (by omega), se_take _ _ _ _ _ _ _ _ _ _ _ _ (by omega), se_take _ _ _ _ _ _ _ _ _ _ _ _ (by omega), se_take _ _ _ _ _ _ _ _ _ _ _ _ (by omega), se_take _ _ _ _ _ _ _ _ _ _ _ _ (by omega)]
                exact he)) (by
                rw [show 400 - F - (A.length + B'.length) = (400 - F - (A.length + (B'.length + 1))) + 1 by omega, List.take_succ_cons]
                refine ⟨?_, ?_⟩
                · unfold HE
                  simp only [el_se]
                  exact ⟨rfl, rfl, rfl, hb.1, hb.2.1, hb.2.2⟩
                · rw [show (F : Int) + (A.length + B'.length) + 1 = F + (A.length + (B'.length + 1)) by omega]
                  exact HE.of (fun a j j0 j1 => se_take _ _ _ _ _ _ _ _ _ _ _ _ (by omega)) hR) sA sB'.1 bA (fun e he => bB e (by simp [he])) h46 h68
            refine ⟨σ', ?_, z2, z3, fun a j ha => by rw [z4 a j ha, se_take _ _ _ _ _ _ _ _ _ _ _ _ (by omega)], z5⟩
            rw [Kh_merge_90, Kh_take, grd_t (by exact ⟨by omega, by omega⟩), if_pos c4, grd_t hob, grd_t (by exact ⟨by omega, by omega⟩), grd_t (by exact ⟨by omega, by omega⟩), grd_t bz, Option.bind_some, grd_t (by exact ⟨by omega, by omega⟩), if_pos c4, grd_t (by exact ⟨by omega, by omega⟩), Kh_merge_133, Kh_merge_136, show (B'.length : Int) + -1 = B'.length - 1 by omega, show (F : Int) + (A.length + B'.length) + -1 = F + (A.length + B'.length) - 1 by omega]
            exact z1
          · obtain ⟨σ', z1, z2, z3, z4, z5⟩ := ih n A B' ((t, c, g, b) :: R) σ (by rw [lb'] at hs; omega) (by omega) hA4 (by omega) hA hB.l (by
                rw [show 400 - F - (A.length + B'.length) = 0 by omega]
                trivial) sA sB'.1 bA (fun e he => bB e (by simp [he])) h46 h68
            refine ⟨σ', ?_, z2, z3, z4, z5⟩
            rw [Kh_merge_90, Kh_take, grd_t (by exact ⟨by omega, by omega⟩), if_neg c4, Option.bind_some, grd_t (by exact ⟨by omega, by omega⟩), if_neg c4, Kh_merge_133, Kh_merge_136, show (B'.length : Int) + -1 = B'.length - 1 by omega, show (F : Int) + (A.length + B'.length) + -1 = F + (A.length + B'.length) - 1 by omega]
            exact z1
        have e8 : ((B' ++ [b]).length : Int) - 1 = B'.length := by omega
        have e9 : (F : Int) + ((A.length : Int) + ((B' ++ [b]).length : Int)) - 1 = F + (A.length + B'.length) := by omega
        rw [e8, e9]
        have head : ∀ X, (if (F : Int) + A.length - 1 < F then Kh_merge_90 N π (Kh_merge_29 N π n) σ 10 g t c F (F + A.length - 1) B'.length (F + (A.length + B'.length)) else grd (inb ((F : Int) + A.length - 1) 400) (grd (ob π 10 2) (grd (inb (B'.length : Int) 6000) (grd (i64 ((el σ 36 ((F : Int) + A.length - 1)) * g)) (grd (i64 ((el σ 11 (B'.length : Int)) * (el σ 38 ((F : Int) + A.length - 1)))) (if ((el σ 11 (B'.length : Int)) * (el σ 38 ((F : Int) + A.length - 1))) < ((el σ 36 ((F : Int) + A.length - 1)) * g) then Option.bind (Kh_move N π σ ((F : Int) + A.length - 1) (F + (A.length + B'.length))) (fun r21 => Kh_merge_136 N π (Kh_merge_29 N π n) r21 10 g t c F (((F : Int) + A.length - 1) + (-1)) B'.length (F + (A.length + B'.length))) else Kh_merge_90 N π (Kh_merge_29 N π n) σ 10 g t c F (F + A.length - 1) B'.length (F + (A.length + B'.length)))))))) = X → Kh_merge_29 N π (n + 1) σ 10 g t c F (F + A.length - 1) B'.length (F + (A.length + B'.length)) = X := by
          intro X hX
          rw [Kh_merge_29, grd_t (by exact ⟨by omega, by omega⟩), grd_t (by exact ⟨by omega, by omega⟩), if_neg (by omega), grd_t (by exact ⟨by omega, by omega⟩), if_neg (by omega), grd_t (by exact ⟨by omega, by omega⟩)]
          exact hX
        by_cases a0 : A = []
        · obtain ⟨σ', z1, z2⟩ := take (by rw [a0]; simp)
          refine ⟨σ', head _ ?_, z2⟩
          rw [if_pos (by rw [a0]; simp only [List.length_nil]; omega), z1]
        · obtain ⟨A', a, rfl⟩ : ∃ A' a, A = A' ++ [a] := ⟨A.dropLast, A.getLast a0, (List.dropLast_concat_getLast a0).symm⟩
          have la : ((A' ++ [a]).length : Int) = A'.length + 1 := by simp
          have la' : (A' ++ [a]).length = A'.length + 1 := by simp
          have ha : HE σ (F + A'.length) a := hA.rt.1
          obtain ⟨-, -, ⟨ag1, ag2⟩, ⟨ab1, ab2⟩, -, -⟩ := bA a (by simp)
          have sA' := List.pairwise_append.1 sA
          have ex : (F : Int) + ((A' ++ [a]).length : Int) - 1 = F + A'.length := by omega
          rw [ex] at head take
          rw [ex]
          have m1 : 0 ≤ a.2.2.2.1 * g := Int.mul_nonneg ab1 (by omega)
          have m2 : a.2.2.2.1 * g ≤ 1000000 * 1000000 := Int.mul_le_mul (by omega) hg.2 (by omega) (by omega)
          have m3 : 0 ≤ b.1 * a.2.2.1 := Int.mul_nonneg bb.1 (by omega)
          have m4 : b.1 * a.2.2.1 ≤ 1000000 * 1000000 := Int.mul_le_mul bb.2 ag2 (by omega) (by omega)
          by_cases cl : b.1 * a.2.2.1 < a.2.2.2.1 * g
          · -- the last of the kept is later
            have allB : ∀ x ∈ (B' ++ [b]).map (fun e => ((t, c, g, e) : Ht)), ltH x a = true := by
              intro x hx
              obtain ⟨e, he, rfl⟩ := List.mem_map.1 hx
              refine decide_eq_true ?_
              show e.1 * a.2.2.1 < a.2.2.2.1 * g
              have : e.1 ≤ b.1 := by
                rcases List.mem_append.1 he with he | he
                · exact sB'.2.2 e he b (by simp)
                · rw [List.mem_singleton.1 he]; exact Int.le_refl _
              have := Int.mul_le_mul_of_nonneg_right this (show 0 ≤ a.2.2.1 by omega)
              omega
            have ei : isoA ltH (A' ++ [a]) ((B' ++ [b]).map (fun e => ((t, c, g, e) : Ht))) ++ R = isoA ltH A' ((B' ++ [b]).map (fun e => ((t, c, g, e) : Ht))) ++ (a :: R) := by
              rw [isoA_last _ _ allB, List.append_assoc]; rfl
            rw [ei]
            have az : isZ (el σ 41 (F + A'.length)) := ha.2.2.2.2.2.z
            have e4 : F + A'.length < 400 := by omega
            rw [la] at hR
            rw [la'] at hR hs hA4
            rw [la]
            have st : ∀ X, Option.bind (Kh_move N π σ (F + A'.length) (F + ((A'.length + 1) + B'.length))) (fun r21 => Kh_merge_29 N π n r21 10 g t c F (F + A'.length - 1) B'.length (F + (A'.length + (B'.length + 1)) - 1)) = X → Kh_merge_29 N π (n + 1) σ 10 g t c F (F + A'.length) B'.length (F + (A'.length + 1 + B'.length)) = X := by
              intro X hX
              rw [la] at head
              refine head X ?_
              rw [if_neg (by omega), grd_t (by exact ⟨by omega, by omega⟩), grd_t hob, grd_t (by exact ⟨by omega, by omega⟩), ha.2.2.2.1, ha.2.2.1, hb.1, grd_t (by exact ⟨by omega, by omega⟩), grd_t (by exact ⟨by omega, by omega⟩), if_pos cl]
              have he : (fun r21 : St => Kh_merge_136 N π (Kh_merge_29 N π n) r21 10 g t c F ((F : Int) + A'.length + -1) B'.length (F + (A'.length + 1 + B'.length))) = (fun r21 : St => Kh_merge_29 N π n r21 10 g t c F (F + A'.length - 1) B'.length (F + (A'.length + (B'.length + 1)) - 1)) := by
                funext r21
                rw [Kh_merge_136, show (F : Int) + A'.length + -1 = F + A'.length - 1 by omega, show (F : Int) + (A'.length + 1 + B'.length) + -1 = F + (A'.length + (B'.length + 1)) - 1 by omega]
              rw [he]
              exact hX
            by_cases c4 : (F : Int) + ((A'.length + 1) + B'.length) < 400
            · obtain ⟨σ', z1, z2, z3, z4, z5⟩ := ih n A' (B' ++ [b]) (a :: R) (se (se (se (se (se (se (se (se σ 34 (F + (A'.length + 1 + B'.length)) (el σ 34 (F + A'.length))) 35 (F + (A'.length + 1 + B'.length)) (el σ 35 (F + A'.length))) 36 (F + (A'.length + 1 + B'.length)) (el σ 36 (F + A'.length))) 37 (F + (A'.length + 1 + B'.length)) (el σ 37 (F + A'.length))) 38 (F + (A'.length + 1 + B'.length)) (el σ 38 (F + A'.length))) 39 (F + (A'.length + 1 + B'.length)) (el σ 39 (F + A'.length))) 40 (F + (A'.length + 1 + B'.length)) (el σ 40 (F + A'.length))) 41 (F + (A'.length + 1 + B'.length)) (el σ 41 (F + A'.length))) (by omega) (by omega) (by omega) hB4 (HE.of (fun x j j0 j1 => se_move _ _ _ _ _ _ _ _ _ _ _ _ (by omega)) hA.l) (hB.mono (fun i e i0 i1 _ he => by
                  unfold CE at he ⊢
                  rw [se_move _ _ _ _ _ _ _ _ _ _ _ _ (by omega), se_move _ _ _ _ _ _ _ _ _ _ _ _ (by omega), se_move _ _ _ _ _ _ _ _ _ _ _ _ (by omega), se_move _ _ _ _ _ _ _ _ _ _ _ _ (by omega), se_move _ _ _ _ _ _ _ _ _ _ _ _ (by omega)]
                  exact he)) (by
                  rw [lb, lb', show 400 - F - (A'.length + (B'.length + 1)) = (400 - F - (A'.length + 1 + (B'.length + 1))) + 1 by omega, List.take_succ_cons]
                  refine ⟨?_, ?_⟩
                  · rw [show (F : Int) + (A'.length + (B'.length + 1)) = F + (A'.length + 1 + B'.length) by omega]
                    unfold HE at ha ⊢
                    simp only [el_se]
                    exact ha
                  · rw [show (F : Int) + (A'.length + (B'.length + 1)) + 1 = F + (A'.length + 1 + (B'.length + 1)) by omega]
                    exact HE.of (fun x j j0 j1 => se_move _ _ _ _ _ _ _ _ _ _ _ _ (by omega)) hR) sA'.1 sB (fun y hy => bA y (by simp [hy])) bB h46 h68
              refine ⟨σ', st _ ?_, z2, z3, fun x j hx => by rw [z4 x j hx, se_move _ _ _ _ _ _ _ _ _ _ _ _ (by omega)], z5⟩
              rw [Kh_move, grd_t (by exact ⟨by omega, by omega⟩), if_pos c4, grd_t (by exact ⟨by omega, by omega⟩), grd_t (by exact ⟨by omega, by omega⟩), grd_t az, Option.bind_some]
              rw [lb, show (B'.length : Int) + 1 - 1 = B'.length by omega] at z1
              exact z1
            · obtain ⟨σ', z1, z2, z3, z4, z5⟩ := ih n A' (B' ++ [b]) (a :: R) σ (by omega) (by omega) (by omega) hB4 hA.l hB (by
                  rw [lb', show 400 - F - (A'.length + (B'.length + 1)) = 0 by omega]
                  trivial) sA'.1 sB (fun y hy => bA y (by simp [hy])) bB h46 h68
              refine ⟨σ', st _ ?_, z2, z3, z4, z5⟩
              rw [Kh_move, grd_t (by exact ⟨by omega, by omega⟩), if_neg c4, Option.bind_some]
              rw [lb, show (B'.length : Int) + 1 - 1 = B'.length by omega] at z1
              exact z1
          · -- it is not
            obtain ⟨σ', z1, z2⟩ := take (by
              intro y hy
              have hba : ltH ((t, c, g, b) : Ht) a = false := decide_eq_false cl
              rcases List.mem_append.1 hy with hy | hy
              · refine leH_trans (a := y) (b := a) (c := (t, c, g, b)) ?_ ag1 hg.1 (sA'.2.2 y hy a (by simp)) hba
                exact (bA y (by simp [hy])).2.2.1.1
              · rw [List.mem_singleton.1 hy]; exact hba)
            refine ⟨σ', head _ ?_, z2⟩
            rw [if_neg (by omega), grd_t (by exact ⟨by omega, by omega⟩), grd_t hob, grd_t (by exact ⟨by omega, by omega⟩), ha.2.2.2.1, ha.2.2.1, hb.1, grd_t (by exact ⟨by omega, by omega⟩), grd_t (by exact ⟨by omega, by omega⟩), if_neg cl]
            exact z1
end KH
