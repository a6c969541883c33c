/-! rows of the class: what an event takes of what sounds at its begin -/
theorem RV.over {w n b w' n' b' : Int} {v s : Vl} (hv : RV w n b v) (hs : RV w' n' b' s) {K : Int} (hK : K = 25) : RV (if w' = 0 then w else w') (if b' = 0 then n else n') (if b' = 0 then b else 1) (joiV K 35 v s) := by
  obtain ⟨A, B, M, h⟩ := v
  obtain ⟨A', B', M', h'⟩ := s
  obtain ⟨v1, v2, v3, v4, v5, v6, v7, v8, v9⟩ := hv
  obtain ⟨s1, s2, s3, s4, s5, s6, s7, s8, s9⟩ := hs
  simp only at v1 v3 v4 v6 v7 v8 v9 s1 s3 s4 s6 s7 s8 s9
  have b0 : b' = 0 ↔ h' = 1 := by omega
  have hj : joiV K 35 (A, B, M, h) (A', B', M', h') = (if h' = 2 then A else A', if h' = 2 then B else B', if h' = 1 then M else M', if h = h' then h else 3) := by
    unfold joiV
    rw [if_neg (show ¬ K = 23 by omega), if_neg (show ¬ K = 24 by omega), if_pos rfl]
  rw [hj]
  unfold RV
  simp only
  by_cases c1 : h' = 2
  · simp only [if_pos (s3.2 c1), if_neg (show ¬ b' = 0 by omega), if_pos c1, if_neg (show ¬ h' = 1 by omega)]
    refine ⟨v1, v2, ?_, s4, s5, ?_, ?_, ?_, fun k => ?_⟩
    · split <;> omega
    · split <;> omega
    · split <;> omega
    · split <;> omega
    · split at k <;> omega
  · by_cases c2 : h' = 1
    · simp only [if_neg (show ¬ w' = 0 from fun k => c1 (s3.1 k)), if_neg c1, if_pos (b0.2 c2), if_pos c2]
      refine ⟨s1, s2, ?_, v4, v5, ?_, ?_, ?_, fun k => ?_⟩
      · split <;> omega
      · split <;> omega
      · split <;> omega
      · split <;> omega
      · split at k <;> omega
    · simp only [if_neg (show ¬ w' = 0 from fun k => c1 (s3.1 k)), if_neg c1, if_neg (show ¬ b' = 0 from fun k => c2 (b0.1 k)), if_neg c2]
      refine ⟨s1, s2, ?_, s4, s5, ?_, ?_, ?_, fun k => ?_⟩
      · split <;> omega
      · split <;> omega
      · split <;> omega
      · split <;> omega
      · split at k <;> omega
theorem RV.reck {w n b w' n' b' : Int} {v s : Vl} (hv : RV w n b v) (hs : RV w' n' b' s) {K a : Int} (hK : K = 25) (ha : ¬ a = 35) : RV w (if b = 0 then n else if b' = 0 then n else w32 (if a = 43 then n + n' else if a = 45 then n - n' else n * n')) b (joiV K a v s) := by
  obtain ⟨A, B, M, h⟩ := v
  obtain ⟨A', B', M', h'⟩ := s
  have hv0 := hv
  obtain ⟨v1, v2, v3, v4, v5, v6, v7, v8, v9⟩ := hv
  obtain ⟨s1, s2, s3, s4, s5, s6, s7, s8, s9⟩ := hs
  simp only at v1 v3 v4 v6 v7 v8 v9 s1 s3 s4 s6 s7 s8 s9
  have hj : joiV K a (A, B, M, h) (A', B', M', h') = if 2 ≤ h ∧ 2 ≤ h' then (A, B, w32 (if a = 43 then M + M' else if a = 45 then M - M' else M * M'), h) else (A, B, M, h) := by
    unfold joiV
    rw [if_neg (show ¬ K = 23 by omega), if_neg (show ¬ K = 24 by omega), if_neg ha]
  rw [hj]
  by_cases c : 2 ≤ h ∧ 2 ≤ h'
  · rw [if_neg (show ¬ b = 0 by omega), if_neg (show ¬ b' = 0 by omega), if_pos c, v4, s4]
    exact ⟨v1, v2, v3, rfl, w32_i _, v6, v7, v8, fun k => by simp only at k; omega⟩
  · rw [if_neg c]
    by_cases c2 : b = 0
    · rw [if_pos c2]; exact hv0
    · rw [if_neg c2, if_pos (by omega)]; exact hv0
theorem RV.lou {w n b : Int} {v : Vl} (hv : RV w n b v) : (if w = 0 then (if b = 0 then 0 else if n = 0 then 0 else 1) else 1 : Int) = if louE v then 1 else 0 := by
  obtain ⟨A, B, M, h⟩ := v
  obtain ⟨v1, v2, v3, v4, v5, v6, v7, v8, v9⟩ := hv
  simp only at v1 v3 v4 v6 v7 v8 v9
  unfold louE
  simp only [decide_eq_true_eq]
  by_cases c : h = 2
  · rw [if_pos (v3.2 c), if_neg (by omega)]
    by_cases c2 : n = 0
    · rw [if_pos c2, if_neg (by omega)]
    · rw [if_neg c2, if_pos (by omega)]
  · rw [if_neg (fun k => c (v3.1 k)), if_pos (Or.inl c)]
section CK9
variable {N : Nat} {π : Sh}
theorem c_isLoud {σ : St} {i : Int} {e : Evt} (h0 : 0 ≤ i) (h1 : i < 6000) (he : CE σ i e) : Es_isLoud N π σ i = some (σ, if louE e.2.2 then 1 else 0) := by
  have hl := he.2.2.lou
  have hz := he.2.2.z
  have hw := he.2.2.2.1
  have hn := he.2.2.2.2.2.2.1
  rw [Es_isLoud, grd_t (by exact ⟨by omega, by omega⟩), grd_t hw, ← hl]
  by_cases c1 : el σ 13 i = 0
  · rw [if_pos c1, if_pos c1, grd_t (by rcases hz with k | k <;> rw [k] <;> decide)]
    by_cases c2 : el σ 15 i = 0
    · rw [if_pos c2, if_pos c2]
    · rw [if_neg c2, if_neg c2, grd_t hn]
      by_cases c3 : el σ 14 i = 0
      · rw [if_pos c3, if_pos c3]
      · rw [if_neg c3, if_neg c3]; rfl
  · rw [if_neg c1, if_neg c1]; rfl
theorem c_join {σ : St} {s i k K a : Int} {e o : Evt} (hs : ob π s 10) (hK : (K = 23 ∧ fl σ 200 s = 19) ∨ (K = 24 ∧ fl σ 200 s = 20) ∨ (K = 25 ∧ fl σ 200 s = 21)) (ha : K = 25 → fl σ 202 s = a ∧ i32 a) (hi : 0 ≤ i ∧ i < 6000) (hk : 0 ≤ k ∧ k < 6000) (hik : i ≠ k) (he : CE σ i e) (ho : CE σ k o) : ∃ σ', Rw_join N π σ s i k = some σ' ∧ (∀ f j, fl σ' f j = fl σ f j) ∧ (∀ b j, j ≠ i ∨ b < 13 ∨ 16 < b → el σ' b j = el σ b j) ∧ CM σ' i ((e.1, e.2.1, joiV K a e.2.2 o.2.2), if K = 24 ∧ louE o.2.2 = false then 2 else 1) := by
  have hz := ho.2.2.z
  have hze := he.2.2.z
  have hw := ho.2.2.2.1
  have iz : ∀ x, isZ x → i32 x := fun x h => by rcases h with k | k <;> rw [k] <;> decide
  rcases hK with ⟨k1, k2⟩ | ⟨k1, k2⟩ | ⟨k1, k2⟩
  · refine ⟨se (se (se (se σ 16 i 1) 13 i (el σ 13 k)) 14 i (el σ 14 k)) 15 i (el σ 15 k), ?_, fun _ _ => rfl, fun b j hj => ?_, ?_, ?_⟩
    · rw [Rw_join, grd_t hs, k2, grd_t (by decide), if_neg (by decide), Rw_join_32, Rw_join_33, grd_t (by exact ⟨by omega, by omega⟩), grd_t hs, k2, grd_t (by decide), if_pos rfl, grd_t (by exact ⟨by omega, by omega⟩), grd_t (by exact ⟨by omega, by omega⟩), grd_t hz]
    · simp only [el_se]
      rw [if_neg (by omega), if_neg (by omega), if_neg (by omega), if_neg (by omega)]
    · unfold CE
      simp only [el_se]
      refine ⟨he.1, he.2.1, ?_⟩
      show RV (el σ 13 k) (el σ 14 k) (el σ 15 k) (joiV K a e.2.2 o.2.2)
      unfold joiV
      rw [if_pos k1]
      exact ho.2.2
    · simp only [el_se]
      rw [if_neg (show ¬ (K = 24 ∧ louE o.2.2 = false) by omega)]
      rfl
  · -- a mask: a mark alone
    have jv : joiV K a e.2.2 o.2.2 = e.2.2 := by unfold joiV; rw [if_neg (by omega), if_pos k1]
    refine ⟨se σ 16 i (if K = 24 ∧ louE o.2.2 = false then 2 else 1), ?_, fun _ _ => rfl, fun b j hj => ?_, ?_, ?_⟩
    · rw [Rw_join, grd_t hs, k2, grd_t (by decide), if_pos rfl, c_isLoud hk.1 hk.2 ho, Option.bind_some]
      have tail : ∀ s0 : Int, Rw_join_33 N π σ s i k s0 i = some (se σ 16 i s0) := by
        intro s0
        rw [Rw_join_33, grd_t (by exact ⟨by omega, by omega⟩), grd_t hs, k2, grd_t (by decide), if_neg (by decide), if_neg (by decide), Rw_join_127, grd_t hs]
        have : fl (se σ 16 i s0) 200 s = 20 := k2
        rw [this, grd_t (by decide), if_neg (by decide)]
      cases hlo : louE o.2.2 with
      | true =>
        rw [if_pos rfl, grd_t (show i32 1 by decide), if_neg (show ¬ (1 : Int) = 0 by decide), Rw_join_32, tail, if_neg (by simp)]
      | false =>
        rw [if_neg (by simp), grd_t (show i32 0 by decide), if_pos rfl, tail, if_pos ⟨k1, rfl⟩]
    · rw [el_se, if_neg (by omega)]
    · rw [jv]
      unfold CE
      simp only [el_se]
      exact he
    · exact el_ses _ _ _ _
  · obtain ⟨a1, a2⟩ := ha k1
    have mk1 : (if K = 24 ∧ louE o.2.2 = false then 2 else 1 : Int) = 1 := if_neg (by omega)
    rw [mk1]
    have hd : Rw_join N π σ s i k = if a = 35 then Option.bind (Rw_overwrite N π (se σ 16 i 1) i k) (fun r20 => some r20) else Rw_join_127 N π (se σ 16 i 1) s i k := by
      rw [Rw_join, grd_t hs, k2, grd_t (by decide), if_neg (by decide), Rw_join_32, Rw_join_33, grd_t (by exact ⟨by omega, by omega⟩), grd_t hs, k2, grd_t (by decide), if_neg (by decide), if_pos rfl, a1, grd_t a2]
      rfl
    have e13 : el (se σ 16 i 1) 13 k = el σ 13 k := rfl
    have e14 : el (se σ 16 i 1) 14 k = el σ 14 k := rfl
    have e15 : el (se σ 16 i 1) 15 k = el σ 15 k := rfl
    have o32 : ∀ σ1 : St, el σ1 14 k = el σ 14 k → el σ1 15 k = el σ 15 k → Rw_overwrite_32 N π σ1 i k = some (if el σ 15 k = 0 then σ1 else se (se σ1 14 i (el σ 14 k)) 15 i 1) := by
      intro σ1 h14 h15
      rw [Rw_overwrite_32, grd_t (by exact ⟨by omega, by omega⟩), h15, grd_t (iz _ hz)]
      by_cases c2 : el σ 15 k = 0
      · rw [if_pos c2, if_pos c2]
      · rw [if_neg c2, if_neg c2, grd_t (by exact ⟨by omega, by omega⟩), h14]
    by_cases c35 : a = 35
    · -- overwrite
      have rv := he.2.2.over ho.2.2 (K := K) k1
      rw [← c35] at rv
      refine ⟨(if el σ 15 k = 0 then (if el σ 13 k = 0 then se σ 16 i 1 else se (se σ 16 i 1) 13 i (el σ 13 k)) else se (se (if el σ 13 k = 0 then se σ 16 i 1 else se (se σ 16 i 1) 13 i (el σ 13 k)) 14 i (el σ 14 k)) 15 i 1), ?_, ?_, ?_, ?_, ?_⟩
      · rw [hd, if_pos c35, Rw_overwrite, grd_t (by exact ⟨by omega, by omega⟩), e13, grd_t hw]
        by_cases c1 : el σ 13 k = 0
        · rw [if_pos c1, o32 (se σ 16 i 1) rfl rfl, Option.bind_some, if_pos c1]
        · rw [if_neg c1, grd_t (by exact ⟨by omega, by omega⟩), o32 (se (se σ 16 i 1) 13 i (el σ 13 k)) rfl rfl, Option.bind_some, if_neg c1]
      · intro f j
        split <;> split <;> rfl
      · intro b j hj
        split <;> split <;> simp only [el_se] <;> repeat rw [if_neg (by omega)]
      · unfold CE
        refine ⟨?_, ?_, ?_⟩
        · show el _ 11 i = e.1
          split <;> split <;> simp only [el_se] <;> exact he.1
        · show el _ 12 i = e.2.1
          split <;> split <;> simp only [el_se] <;> exact he.2.1
        · show RV (el _ 13 i) (el _ 14 i) (el _ 15 i) (joiV K a e.2.2 o.2.2)
          by_cases c1 : el σ 13 k = 0
          · by_cases c2 : el σ 15 k = 0
            · simp only [if_pos c1, if_pos c2] at rv ⊢
              simp only [el_se]
              exact rv
            · simp only [if_pos c1, if_neg c2] at rv ⊢
              simp only [el_se]
              exact rv
          · by_cases c2 : el σ 15 k = 0
            · simp only [if_neg c1, if_pos c2] at rv ⊢
              simp only [el_se]
              exact rv
            · simp only [if_neg c1, if_neg c2] at rv ⊢
              simp only [el_se]
              exact rv
      · show el _ 16 i = 1
        split <;> split <;> simp only [el_se] <;> rfl
    · have rv := he.2.2.reck ho.2.2 (K := K) (a := a) k1 c35
      have rk : Rw_reckon N a (el σ 14 i) (el σ 14 k) = some (w32 (if a = 43 then el σ 14 i + el σ 14 k else if a = 45 then el σ 14 i - el σ 14 k else el σ 14 i * el σ 14 k)) := by
        rw [Rw_reckon, grd_t a2]
        by_cases c1 : a = 43
        · rw [if_pos c1, if_pos c1]
        · rw [if_neg c1, if_neg c1]
          by_cases c2 : a = 45
          · rw [if_pos c2, if_pos c2]
          · rw [if_neg c2, if_neg c2]
      have j127 : Rw_join_127 N π (se σ 16 i 1) s i k = some (if el σ 15 i = 0 then se σ 16 i 1 else if el σ 15 k = 0 then se σ 16 i 1 else se (se σ 16 i 1) 14 i (w32 (if a = 43 then el σ 14 i + el σ 14 k else if a = 45 then el σ 14 i - el σ 14 k else el σ 14 i * el σ 14 k))) := by
        have f200 : fl (se σ 16 i 1) 200 s = 21 := k2
        have f202 : fl (se σ 16 i 1) 202 s = a := a1
        have g15 : el (se σ 16 i 1) 15 i = el σ 15 i := rfl
        have g14 : el (se σ 16 i 1) 14 i = el σ 14 i := rfl
        rw [Rw_join_127, grd_t hs, f200, grd_t (by decide), if_pos rfl, grd_t (by exact ⟨by omega, by omega⟩), g15, grd_t (iz _ hze)]
        by_cases c1 : el σ 15 i = 0
        · rw [if_pos c1, if_pos c1]
        · rw [if_neg c1, if_neg c1, grd_t (by exact ⟨by omega, by omega⟩), e15, grd_t (iz _ hz)]
          by_cases c2 : el σ 15 k = 0
          · rw [if_pos c2, if_pos c2]
          · rw [if_neg c2, if_neg c2, f202, g14, e14, rk, Option.bind_some]
      refine ⟨_, by rw [hd, if_neg c35]; exact j127, ?_, ?_, ?_, ?_⟩
      · intro f j
        split
        · rfl
        · split <;> rfl
      · intro b j hj
        split
        · simp only [el_se]; rw [if_neg (by omega)]
        · split <;> simp only [el_se] <;> repeat rw [if_neg (by omega)]
      · unfold CE
        refine ⟨?_, ?_, ?_⟩
        · show el _ 11 i = e.1
          split
          · exact he.1
          · split <;> exact he.1
        · show el _ 12 i = e.2.1
          split
          · exact he.2.1
          · split <;> exact he.2.1
        · show RV (el _ 13 i) (el _ 14 i) (el _ 15 i) (joiV K a e.2.2 o.2.2)
          by_cases c1 : el σ 15 i = 0
          · simp only [if_pos c1] at rv ⊢
            simp only [el_se]
            exact rv
          · by_cases c2 : el σ 15 k = 0
            · simp only [if_neg c1, if_pos c2] at rv ⊢
              simp only [el_se]
              exact rv
            · simp only [if_neg c1, if_neg c2] at rv ⊢
              simp only [el_se]
              exact rv
      · show el _ 16 i = 1
        split
        · exact el_ses _ _ _ _
        · split
          · exact el_ses _ _ _ _
          · simp only [el_se]; rfl
end CK9
