theorem nI_sub960 (a : Nat) : nI (a + 960) - 960 = nI a := by
  rw [← nI_add]
  exact Int32.add_sub_cancel _ _
theorem nI_nleN {a b : Nat} (h : b < a) (ha : a < 2 ^ 31) : ¬ nI a ≤ nI b := by
  rw [Int32.le_iff_toInt_le, nI_toInt ha, nI_toInt (by omega)]
  omega
theorem play_q {x : Int32} (h : x ≤ 3840) : lg_cmp (((0 * 960) + 0) + x.toInt64) 96000000 ≤ 0 := by
  have e0 : (((0 : Int64) * 960) + 0) + x.toInt64 = x.toInt64 := by
    rw [show ((0 : Int64) * 960) + 0 = 0 by decide]
    exact Int64.zero_add _
  rw [e0]
  have hn : ¬ x.toInt64 > 96000000 := by
    intro hc
    have hc : (96000000 : Int64) < x.toInt64 := hc
    rw [Int64.lt_iff_toInt_lt, Int32.toInt_toInt64] at hc
    rw [Int32.le_iff_toInt_le] at h
    have a1 : (96000000 : Int64).toInt = 96000000 := by decide
    have a2 : (3840 : Int32).toInt = 3840 := by decide
    omega
  unfold lg_cmp
  rw [if_neg hn]
  split <;> decide
theorem hang_out {x : Int32} (h : isTr x = 0) : hangA x = -1 := by
  unfold hangA
  by_cases c : x < 0
  · rw [if_pos c]
  · rw [if_neg c, if_neg (isTr_out c h)]
theorem tr_lit {x : Int32} (h : ¬ isTr x = 0) : x = 0 ∨ x = 1 ∨ x = 2 ∨ x = 3 ∨ x = 4 ∨ x = 5 ∨ x = 6 ∨ x = 7 := by
  obtain ⟨j, hj, rfl⟩ := vp_in_of (isTr_in h) (by decide)
  exact (show ∀ j, j < 8 → (nI j = 0 ∨ nI j = 1 ∨ nI j = 2 ∨ nI j = 3 ∨ nI j = 4 ∨ nI j = 5 ∨ nI j = 6 ∨ nI j = 7) by decide) j hj
theorem ab_lit {x : Int32} (h : ¬ (x.toInt < 0 ∨ 6 < x.toInt)) : x = 0 ∨ x = 1 ∨ x = 2 ∨ x = 3 ∨ x = 4 ∨ x = 5 ∨ x = 6 := by
  obtain ⟨j, hj, rfl⟩ := vp_in_of (x := x) (n := 7) (vp_in_iff.mpr (by omega)) (by decide)
  exact (show ∀ j, j < 7 → (nI j = 0 ∨ nI j = 1 ∨ nI j = 2 ∨ nI j = 3 ∨ nI j = 4 ∨ nI j = 5 ∨ nI j = 6) by decide) j hj
theorem pl_lit {x : Int32} (h1 : ¬ x < 1) (h2 : ¬ 3840 < x) : x = 960 ∨ x = 1920 ∨ x = 2880 ∨ x = 3840 ∨ ∃ r : Nat, 1 ≤ r ∧ r < 960 ∧ (x = nI r ∨ x = nI (r + 960) ∨ x = nI (r + 960 + 960) ∨ x = nI (r + 960 + 960 + 960)) := by
  rw [Int32.lt_iff_toInt_lt] at h1 h2
  have a1 : (1 : Int32).toInt = 1 := by decide
  have a2 : (3840 : Int32).toInt = 3840 := by decide
  obtain ⟨j, hj, rfl⟩ := vp_in_of (x := x) (n := 3841) (vp_in_iff.mpr (by omega)) (by decide)
  rw [nI_toInt (by omega)] at h1 h2
  have hc : j = 960 ∨ j = 1920 ∨ j = 2880 ∨ j = 3840 ∨ (1 ≤ j ∧ j < 960) ∨ (1 ≤ j - 960 ∧ j - 960 < 960) ∨ (1 ≤ j - 1920 ∧ j - 1920 < 960) ∨ (1 ≤ j - 2880 ∧ j - 2880 < 960) := by omega
  rcases hc with rfl | rfl | rfl | rfl | ⟨a, b⟩ | ⟨a, b⟩ | ⟨a, b⟩ | ⟨a, b⟩
  · exact Or.inl rfl
  · exact Or.inr (Or.inl rfl)
  · exact Or.inr (Or.inr (Or.inl rfl))
  · exact Or.inr (Or.inr (Or.inr (Or.inl rfl)))
  · exact Or.inr (Or.inr (Or.inr (Or.inr ⟨j, a, b, Or.inl rfl⟩)))
  · exact Or.inr (Or.inr (Or.inr (Or.inr ⟨j - 960, a, b, Or.inr (Or.inl (congrArg nI (by omega)))⟩)))
  · exact Or.inr (Or.inr (Or.inr (Or.inr ⟨j - 1920, a, b, Or.inr (Or.inr (Or.inl (congrArg nI (by omega))))⟩)))
  · exact Or.inr (Or.inr (Or.inr (Or.inr ⟨j - 2880, a, b, Or.inr (Or.inr (Or.inr (congrArg nI (by omega))))⟩)))
set_option maxHeartbeats 4000000 in
set_option maxRecDepth 100000 in
theorem lc_all {p : Program} {l : Launch} {e : Env} {s : State} {m : MethodId} {below : List Frame} {meth : Method} {c : Code} {H : Heap} {locs : List Loc} {cells slots : Nat} {Q : State → Prop} {ls : Array Slot} {D : va_G} {A : Nat → Prop} {k : Nat → ClassId} {a a2 b L z : Nat} {aK aV q g : Nat → Nat} {xs : Nat → Int32} (C : Cx p s m #[Value.ref b] c code RL lw_tbl D (TYs k) 4) (hX : va_X b L xs s s.heap) (hbl : b < s.heap.size) (hbA : ¬ A b) (hE : En z aK aV A s s.heap) (hL : 6 ≤ L) (hL2 : L < 2 ^ 31) (hcl : cells + 10 ≤ 600000) (hsl : slots + 100 ≤ 7302250) (hl : lv_has ls 4 [(3, .int 0), (2, .ref a2), (1, .ref a), (0, .ref b)]) (h : Hp D A s.heap H locs (xW k z a q ++ mW0 k a2 g)) (kk : ∀ (H1 : Heap) (locs1 : List Loc), Hp D A s.heap H1 locs1 [] → W p l e room_1 s m #[Value.ref b] below meth c H1 locs1 (cells + 10) (slots + 100) Q (F0 m 674 ls [])) : W p l e room_1 s m #[Value.ref b] below meth c H locs cells slots Q (F0 m 33 ls [.int (xs 0 &&& 31)]) := by
  obtain ⟨j, hj, ej⟩ := pk_andE (xs 0) (m := 31) 5 (by decide)
  refine x_topi ej ?_
  have hj : j < 32 := hj
  rcases (show j = 0 ∨ j = 1 ∨ j = 2 ∨ j = 3 ∨ j = 4 ∨ j = 5 ∨ j = 6 ∨ j = 7 ∨ j = 8 ∨ j = 9 ∨ j = 10 ∨ j = 11 ∨ j = 12 ∨ j = 13 ∨ j = 14 ∨ j = 15 ∨ j = 16 ∨ j = 17 ∨ 18 ≤ j by omega) with rfl | rfl | rfl | rfl | rfl | rfl | rfl | rfl | rfl | rfl | rfl | rfl | rfl | rfl | rfl | rfl | rfl | rfl | hg
  · refine lv_tableIn (tgt := 120) C.1 C.2.1 dL_law_33 (by decide) (by decide) rfl (by decide) ?_
    exact lc_feed C hX hbl hbA hE hL hL2 hcl hsl hl h kk
  · refine lv_tableIn (tgt := 183) C.1 C.2.1 dL_law_33 (by decide) (by decide) rfl (by decide) ?_
    exact lc_end C hX hbl hbA hE hL hL2 hcl hsl hl h kk
  · refine lv_tableIn (tgt := 206) C.1 C.2.1 dL_law_33 (by decide) (by decide) rfl (by decide) ?_
    exact lc_read C hX hbl hbA hE hL hL2 hcl hsl hl h kk
  · refine lv_tableIn (tgt := 219) C.1 C.2.1 dL_law_33 (by decide) (by decide) rfl (by decide) ?_
    by_cases hx : isTr (xs 1) = 0
    · exact lc_hangO C hX hbl hbA hE hL hL2 hcl hsl hl h hx (hang_out hx) kk
    rcases tr_lit hx with hj | hj | hj | hj | hj | hj | hj | hj
    · exact lc_hang0 C hX hbl hbA hE hL hL2 hcl hsl hl h hj kk
    · exact lc_hang1 C hX hbl hbA hE hL hL2 hcl hsl hl h hj kk
    · exact lc_hang2 C hX hbl hbA hE hL hL2 hcl hsl hl h hj kk
    · exact lc_hang3 C hX hbl hbA hE hL hL2 hcl hsl hl h hj kk
    · exact lc_hang4 C hX hbl hbA hE hL hL2 hcl hsl hl h hj kk
    · exact lc_hang5 C hX hbl hbA hE hL hL2 hcl hsl hl h hj kk
    · exact lc_hang6 C hX hbl hbA hE hL hL2 hcl hsl hl h hj kk
    · exact lc_hang7 C hX hbl hbA hE hL hL2 hcl hsl hl h hj kk
  · refine lv_tableIn (tgt := 242) C.1 C.2.1 dL_law_33 (by decide) (by decide) rfl (by decide) ?_
    by_cases hx : isTr (xs 1) = 0
    · exact lc_hushO C hX hbl hbA hE hL hL2 hcl hsl hl h hx kk
    rcases tr_lit hx with hj | hj | hj | hj | hj | hj | hj | hj
    · exact lc_hush0 C hX hbl hbA hE hL hL2 hcl hsl hl h hj kk
    · exact lc_hush1 C hX hbl hbA hE hL hL2 hcl hsl hl h hj kk
    · exact lc_hush2 C hX hbl hbA hE hL hL2 hcl hsl hl h hj kk
    · exact lc_hush3 C hX hbl hbA hE hL hL2 hcl hsl hl h hj kk
    · exact lc_hush4 C hX hbl hbA hE hL hL2 hcl hsl hl h hj kk
    · exact lc_hush5 C hX hbl hbA hE hL hL2 hcl hsl hl h hj kk
    · exact lc_hush6 C hX hbl hbA hE hL hL2 hcl hsl hl h hj kk
    · exact lc_hush7 C hX hbl hbA hE hL hL2 hcl hsl hl h hj kk
  · refine lv_tableIn (tgt := 265) C.1 C.2.1 dL_law_33 (by decide) (by decide) rfl (by decide) ?_
    exact lc_told C hX hbl hbA hE hL hL2 hcl hsl hl h kk
  · refine lv_tableIn (tgt := 288) C.1 C.2.1 dL_law_33 (by decide) (by decide) rfl (by decide) ?_
    exact lc_bound C hX hbl hbA hE hL hL2 hcl hsl hl h kk
  · refine lv_tableIn (tgt := 321) C.1 C.2.1 dL_law_33 (by decide) (by decide) rfl (by decide) ?_
    exact lc_ask C hX hbl hbA hE hL hL2 hcl hsl hl h kk
  · refine lv_tableIn (tgt := 354) C.1 C.2.1 dL_law_33 (by decide) (by decide) rfl (by decide) ?_
    exact lc_event C hX hbl hbA hE hL hL2 hcl hsl hl h kk
  · refine lv_tableIn (tgt := 387) C.1 C.2.1 dL_law_33 (by decide) (by decide) rfl (by decide) ?_
    exact lc_letter C hX hbl hbA hE hL hL2 hcl hsl hl h kk
  · refine lv_tableIn (tgt := 420) C.1 C.2.1 dL_law_33 (by decide) (by decide) rfl (by decide) ?_
    by_cases h1 : xs 1 < 1
    · exact lc_playL C hX hbl hbA hE hL hL2 hcl hsl hl h h1 kk
    by_cases h2 : 3840 < xs 1
    · exact lc_playG C hX hbl hbA hE hL hL2 hcl hsl hl h h1 h2 kk
    have h2b : xs 1 ≤ 3840 := Int32.not_lt.mp h2
    rcases pl_lit h1 h2 with hj | hj | hj | hj | ⟨n, hn1, hn2, hj | hj | hj | hj⟩
    · exact lc_play1e C hX hbl hbA hE hL hL2 hcl hsl hl h h1 h2 (by rw [hj]; decide) (by rw [hj]; decide) (by rw [hj]; decide) h2b (play_q h2b) (by rw [hj]; decide) (by rw [hj]; decide) (by rw [hj]; decide) kk
    · exact lc_play2e C hX hbl hbA hE hL hL2 hcl hsl hl h h1 h2 (by rw [hj]; decide) (by rw [hj]; decide) (by rw [hj]; decide) (by rw [hj]; decide) (by rw [hj]; decide) h2b (play_q h2b) (by rw [hj]; decide) (by rw [hj]; decide) (by rw [hj]; decide) (by rw [hj]; decide) (by rw [hj]; decide) kk
    · exact lc_play3e C hX hbl hbA hE hL hL2 hcl hsl hl h h1 h2 (by rw [hj]; decide) (by rw [hj]; decide) (by rw [hj]; decide) (by rw [hj]; decide) (by rw [hj]; decide) (by rw [hj]; decide) (by rw [hj]; decide) h2b (play_q h2b) (by rw [hj]; decide) (by rw [hj]; decide) (by rw [hj]; decide) (by rw [hj]; decide) (by rw [hj]; decide) (by rw [hj]; decide) (by rw [hj]; decide) kk
    · exact lc_play4e C hX hbl hbA hE hL hL2 hcl hsl hl h h1 h2 (by rw [hj]; decide) (by rw [hj]; decide) (by rw [hj]; decide) (by rw [hj]; decide) (by rw [hj]; decide) (by rw [hj]; decide) (by rw [hj]; decide) (by rw [hj]; decide) (by rw [hj]; decide) h2b (play_q h2b) (by rw [hj]; decide) (by rw [hj]; decide) (by rw [hj]; decide) (by rw [hj]; decide) (by rw [hj]; decide) (by rw [hj]; decide) (by rw [hj]; decide) (by rw [hj]; decide) (by rw [hj]; decide) kk
    · exact lc_play0p C hX hbl hbA hE hL hL2 hcl hsl hl h h1 h2 (by rw [hj, Int32.zero_add]; exact nI_le (b := 96000000) (by omega) (by decide)) (by rw [hj, Int32.zero_add]; exact nI_nleN (b := 0) (by omega) (by omega)) (by rw [hj, Int32.zero_add]; exact nI_nlt (a := 960) (by omega) (by decide)) h2b (play_q h2b) (by rw [hj]; exact nI_nleN (b := 0) (by omega) (by omega)) (by rw [hj]; exact nI_nleN (a := 960) (by omega) (by decide)) (by rw [hj, Int32.zero_add]; exact nI_nleN (a := 960) (by omega) (by decide)) kk
    · exact lc_play1p C hX hbl hbA hE hL hL2 hcl hsl hl h h1 h2 (by rw [hj, Int32.zero_add]; exact nI_le (b := 96000000) (by omega) (by decide)) (by rw [hj, Int32.zero_add]; exact nI_nleN (b := 0) (by omega) (by omega)) (by rw [hj, Int32.zero_add]; exact nI_nleN (b := 960) (by omega) (by omega)) (by rw [hj, Int32.zero_add]; exact nI_lt (a := 960) (by omega) (by omega)) (by rw [hj, Int32.zero_add]; exact nI_nlt (a := 1920) (by omega) (by decide)) h2b (play_q h2b) (by rw [hj]; exact nI_nleN (b := 0) (by omega) (by omega)) (by rw [hj]; exact nI_le (a := 960) (by omega) (by omega)) (by rw [hj, nI_sub960]; exact nI_nleN (b := 0) (by omega) (by omega)) (by rw [hj, nI_sub960]; exact nI_nleN (a := 960) (by omega) (by decide)) (by rw [hj, nI_sub960, Int32.zero_add]; exact nI_nleN (a := 960) (by omega) (by decide)) kk
    · exact lc_play2p C hX hbl hbA hE hL hL2 hcl hsl hl h h1 h2 (by rw [hj, Int32.zero_add]; exact nI_le (b := 96000000) (by omega) (by decide)) (by rw [hj, Int32.zero_add]; exact nI_nleN (b := 0) (by omega) (by omega)) (by rw [hj, Int32.zero_add]; exact nI_nleN (b := 960) (by omega) (by omega)) (by rw [hj, Int32.zero_add]; exact nI_nleN (b := 1920) (by omega) (by omega)) (by rw [hj, Int32.zero_add]; exact nI_lt (a := 960) (by omega) (by omega)) (by rw [hj, Int32.zero_add]; exact nI_lt (a := 1920) (by omega) (by omega)) (by rw [hj, Int32.zero_add]; exact nI_nlt (a := 2880) (by omega) (by decide)) h2b (play_q h2b) (by rw [hj]; exact nI_nleN (b := 0) (by omega) (by omega)) (by rw [hj]; exact nI_le (a := 960) (by omega) (by omega)) (by rw [hj, nI_sub960]; exact nI_nleN (b := 0) (by omega) (by omega)) (by rw [hj, nI_sub960]; exact nI_le (a := 960) (by omega) (by omega)) (by rw [hj, nI_sub960, nI_sub960]; exact nI_nleN (b := 0) (by omega) (by omega)) (by rw [hj, nI_sub960, nI_sub960]; exact nI_nleN (a := 960) (by omega) (by decide)) (by rw [hj, nI_sub960, nI_sub960, Int32.zero_add]; exact nI_nleN (a := 960) (by omega) (by decide)) kk
    · exact lc_play3p C hX hbl hbA hE hL hL2 hcl hsl hl h h1 h2 (by rw [hj, Int32.zero_add]; exact nI_le (b := 96000000) (by omega) (by decide)) (by rw [hj, Int32.zero_add]; exact nI_nleN (b := 0) (by omega) (by omega)) (by rw [hj, Int32.zero_add]; exact nI_nleN (b := 960) (by omega) (by omega)) (by rw [hj, Int32.zero_add]; exact nI_nleN (b := 1920) (by omega) (by omega)) (by rw [hj, Int32.zero_add]; exact nI_nleN (b := 2880) (by omega) (by omega)) (by rw [hj, Int32.zero_add]; exact nI_lt (a := 960) (by omega) (by omega)) (by rw [hj, Int32.zero_add]; exact nI_lt (a := 1920) (by omega) (by omega)) (by rw [hj, Int32.zero_add]; exact nI_lt (a := 2880) (by omega) (by omega)) (by rw [hj, Int32.zero_add]; exact nI_nlt (a := 3840) (by omega) (by decide)) h2b (play_q h2b) (by rw [hj]; exact nI_nleN (b := 0) (by omega) (by omega)) (by rw [hj]; exact nI_le (a := 960) (by omega) (by omega)) (by rw [hj, nI_sub960]; exact nI_nleN (b := 0) (by omega) (by omega)) (by rw [hj, nI_sub960]; exact nI_le (a := 960) (by omega) (by omega)) (by rw [hj, nI_sub960, nI_sub960]; exact nI_nleN (b := 0) (by omega) (by omega)) (by rw [hj, nI_sub960, nI_sub960]; exact nI_le (a := 960) (by omega) (by omega)) (by rw [hj, nI_sub960, nI_sub960, nI_sub960]; exact nI_nleN (b := 0) (by omega) (by omega)) (by rw [hj, nI_sub960, nI_sub960, nI_sub960]; exact nI_nleN (a := 960) (by omega) (by decide)) (by rw [hj, nI_sub960, nI_sub960, nI_sub960, Int32.zero_add]; exact nI_nleN (a := 960) (by omega) (by decide)) kk
  · refine lv_tableIn (tgt := 443) C.1 C.2.1 dL_law_33 (by decide) (by decide) rfl (by decide) ?_
    exact lc_heard C hX hbl hbA hE hL hL2 hcl hsl hl h kk
  · refine lv_tableIn (tgt := 476) C.1 C.2.1 dL_law_33 (by decide) (by decide) rfl (by decide) ?_
    exact lc_heardLetter C hX hbl hbA hE hL hL2 hcl hsl hl h kk
  · refine lv_tableIn (tgt := 509) C.1 C.2.1 dL_law_33 (by decide) (by decide) rfl (by decide) ?_
    exact lc_jump C hX hbl hbA hE hL hL2 hcl hsl hl h kk
  · refine lv_tableIn (tgt := 532) C.1 C.2.1 dL_law_33 (by decide) (by decide) rfl (by decide) ?_
    by_cases hz : xs 2 = 0
    · exact lc_mute0 C hX hbl hbA hE hL hL2 hcl hsl hl h hz kk
    · exact lc_mute1 C hX hbl hbA hE hL hL2 hcl hsl hl h hz kk
  · refine lv_tableIn (tgt := 581) C.1 C.2.1 dL_law_33 (by decide) (by decide) rfl (by decide) ?_
    by_cases hz : xs 2 = 0
    · exact lc_solo0 C hX hbl hbA hE hL hL2 hcl hsl hl h hz kk
    · exact lc_solo1 C hX hbl hbA hE hL hL2 hcl hsl hl h hz kk
  · refine lv_tableIn (tgt := 630) C.1 C.2.1 dL_law_33 (by decide) (by decide) rfl (by decide) ?_
    exact lc_seed C hX hbl hbA hE hL hL2 hcl hsl hl h kk
  · refine lv_tableIn (tgt := 651) C.1 C.2.1 dL_law_33 (by decide) (by decide) rfl (by decide) ?_
    by_cases hx : (xs 1).toInt < 0 ∨ 6 < (xs 1).toInt
    · exact lc_aboutO C hX hbl hbA hE hL hL2 hcl hsl hl h hx kk
    rcases ab_lit hx with hj | hj | hj | hj | hj | hj | hj
    · exact lc_about0 C hX hbl hbA hE hL hL2 hcl hsl hl h hj kk
    · exact lc_about1 C hX hbl hbA hE hL hL2 hcl hsl hl h hj kk
    · exact lc_about2 C hX hbl hbA hE hL hL2 hcl hsl hl h hj kk
    · exact lc_about3 C hX hbl hbA hE hL hL2 hcl hsl hl h hj kk
    · exact lc_about4 C hX hbl hbA hE hL hL2 hcl hsl hl h hj kk
    · exact lc_about5 C hX hbl hbA hE hL hL2 hcl hsl hl h hj kk
    · exact lc_about6 C hX hbl hbA hE hL hL2 hcl hsl hl h hj kk
  · refine lv_tableOut (tgt := 674) C.1 C.2.1 dL_law_33 (Or.inr (by rw [nI_toInt (by omega)]; omega)) (by decide) ?_
    exact W.widen (k := cells + 10) (n := slots + 100) (by omega) (by omega) (kk H locs h.nil)
theorem lx_out {p : Program} {l : Launch} {e : Env} {s : State} {m : MethodId} {below : List Frame} {meth : Method} {c : Code} {H : Heap} {locs : List Loc} {cells slots : Nat} {ls : Array Slot} {D : va_G} {k : Nat → ClassId} {a a2 b L : Nat} {xs : Nat → Int32} (C : Cx p s m #[Value.ref b] c code RL lw_tbl D (TYs k) 4) (hr : meth.sig.returnType = ret) (hlk : meth.locks = false) (hX : va_X b L xs s s.heap) (hbl : b < s.heap.size) {i : Int32} (hi : Int32.ofNat L - 6 < i) (hc : cells ≤ 600000) (hs : slots ≤ 7302250) (hl : lv_has ls 4 [(3, .int i), (2, .ref a2), (1, .ref a), (0, .ref b)]) (h : Hp D (fun q => s.heap.size ≤ q) s.heap H locs []) : W p l e room_1 s m #[Value.ref b] below meth c H locs cells slots (lw_Z below #[Value.ref b] s) (F0 m 18 ls []) := by
  refine lv_iload_n C.1 C.2.1 dL_law_18 rfl (lv_at hl 0 rfl) ?_
  refine lv_aload_n C.1 C.2.1 dL_law_19 rfl (lv_at hl 3 rfl) ?_
  refine va_slen C.1 C.2.1 hX hbl (Nat.not_le.mpr hbl) h.2.2.1 dL_law_20 ?_
  refine lv_bipush (v := 6) C.1 C.2.1 dL_law_21 (by decide) ?_
  refine lv_isub C.1 C.2.1 dL_law_23 ?_
  refine lv_icmp_gt (tgt := 680) C.1 C.2.1 dL_law_24 (by decide) (fun _ => ?_) (fun c => absurd hi c)
  refine lv_iconst (v := 1) C.1 C.2.1 dL_law_680 (by decide) ?_
  refine W.widen (k := 600000) (n := 7302250) hc hs ?_
  refine va_forget (fun q hq => h.2.2.1.2.2 q hq) ?_
  exact lw_ret C.1 C.2.1 hr hlk dL_law_681
set_option maxHeartbeats 4000000 in
set_option maxRecDepth 100000 in
theorem lx_head {p : Program} {l : Launch} {e : Env} {s : State} {m : MethodId} {below : List Frame} {meth : Method} {c : Code} {H : Heap} {locs : List Loc} {cells slots : Nat} {ls : Array Slot} {D : va_G} {k : Nat → ClassId} {a a2 b L : Nat} {xs : Nat → Int32} {z : Nat} {aK aV q g : Nat → Nat} (C : Cx p s m #[Value.ref b] c code RL lw_tbl D (TYs k) 4) (hr : meth.sig.returnType = ret) (hlk : meth.locks = false) (hX : va_X b L xs s s.heap) (hbl : b < s.heap.size) (hE : En z aK aV (fun q => s.heap.size ≤ q) s s.heap) (hL : L ≤ 6) (hcl : cells + 10 ≤ 600000) (hsl : slots + 100 ≤ 7302250) (hl : lv_has ls 4 [(3, .int 0), (2, .ref a2), (1, .ref a), (0, .ref b)]) (h : Hp D (fun q => s.heap.size ≤ q) s.heap H locs (xW k z a q ++ mW0 k a2 g)) : W p l e room_1 s m #[Value.ref b] below meth c H locs cells slots (lw_Z below #[Value.ref b] s) (F0 m 18 ls []) := by
  by_cases h6 : L < 6
  · refine lx_out C hr hlk hX hbl ?_ (by omega) (by omega) hl h.nil
    exact (show ∀ j, j < 6 → Int32.ofNat j - 6 < 0 by decide) L h6
  have h6 : L = 6 := by omega
  subst h6
  refine lv_iload_n C.1 C.2.1 dL_law_18 rfl (lv_at hl 0 rfl) ?_
  refine lv_aload_n C.1 C.2.1 dL_law_19 rfl (lv_at hl 3 rfl) ?_
  refine va_slen C.1 C.2.1 hX hbl (Nat.not_le.mpr hbl) h.2.2.1 dL_law_20 ?_
  refine lv_bipush (v := 6) C.1 C.2.1 dL_law_21 (by decide) ?_
  refine lv_isub C.1 C.2.1 dL_law_23 ?_
  refine lv_icmp_gt (tgt := 680) C.1 C.2.1 dL_law_24 (by decide) (fun c => absurd c (by decide)) (fun _ => ?_)
  refine lv_aload_n C.1 C.2.1 dL_law_27 rfl (lv_at hl 3 rfl) ?_
  refine lv_iload_n C.1 C.2.1 dL_law_28 rfl (lv_at hl 0 rfl) ?_
  refine va_sld C.1 C.2.1 hX hbl (Nat.not_le.mpr hbl) h.2.2.1 (i := 0) (vp_in_nI (n := 0) (by omega) (by decide)) dL_law_29 ?_
  refine x_topi (y := xs 0) (show xs 0 = xs 0 from rfl) ?_
  refine lv_bipush (v := 31) C.1 C.2.1 dL_law_30 (by decide) ?_
  refine lv_iand C.1 C.2.1 dL_law_32 ?_
  refine lc_all C hX hbl (Nat.not_le.mpr hbl) hE (Nat.le_refl 6) (by decide) hcl hsl hl h (fun H1 locs1 h1 => ?_)
  refine lv_iinc (v := 6) (lv' := [(3, .int 6), (2, .ref a2), (1, .ref a), (0, .ref b)]) C.1 C.2.1 dL_law_674 hl (k := 0) rfl (by decide) (by decide) rfl (fun ls hl => ?_)
  refine lv_goto (tgt := 18) C.1 C.2.1 dL_law_677 (by decide) ?_
  exact lx_out C hr hlk hX hbl (by decide) (by omega) (by omega) hl h1
set_option maxHeartbeats 4000000 in
set_option maxRecDepth 100000 in
/-- from the entry, for every script of at most 6 ints, the law comes to its end with true -/
theorem whole_start {p : Program} {e : Env} {s : State} {m : MethodId} {below : List Frame} {meth : Method} {c : Code} (l : Launch) {b L : Nat} {xs : Nat → Int32} (hL : L ≤ 6) (C0 : lw_At p s m meth c b L xs) : W p l e room_1 s m #[Value.ref b] below meth c s.heap [] 0 0 (lw_Z below #[Value.ref b] s) (entryFrame m ([Value.ref b] : List Value).toArray 4) := by
  obtain ⟨hx, hb, hr, hml, hown, hts, hX, hbl, hlocks, hgv⟩ := id C0
  obtain ⟨z, aK, aV, hE⟩ := en_start hts hgv
  obtain ⟨D, k, hK⟩ := k_start (args := #[Value.ref b]) (s := s) (fun w hw => hts w (List.mem_append_right _ hw))
  have C : Cx p s m #[Value.ref b] c code RL lw_tbl D (TYs k) 4 := ⟨hx, hb, hts, hown, hK, hml⟩
  have h : Hp D (fun q => s.heap.size ≤ q) s.heap s.heap [] [] := ⟨fun k q h => by simp at h, ⟨fun i j p q h => by simp at h, fun k q h => by simp at h⟩, va_S.rf, fun _ h => h⟩
  have hl := lv_entry ([.ref b]) (n := 4) (Nat.le_of_ble_eq_true rfl)
  rw [lg_entry_eq]
  generalize (lg_sl ([.ref b]) ++ List.replicate (4 - (lg_sl ([.ref b])).length) Slot.unset).toArray = ls at hl ⊢
  have hl : lv_has ls 4 [(0, .ref b)] := hl
  refine x_new (fs := [.null, .null, .null, .null, .null, .null, .null, .null, .null, .null, .null, .null, .null, .int 0, .int 0, .int 0, .int 0, .int 0, .int 0]) C h 12 dL_law_0 rfl (fun w hw => (gu_X11 w hw).1) tyX11_ok gw_587.1 gw_701.1 gw_48.1 (by decide) (Nat.le_of_ble_eq_true rfl) (Nat.le_of_ble_eq_true rfl) (fun a H h => ?_)
  have h : Hp D (fun q => s.heap.size ≤ q) s.heap H [] [(a, .inr (12, [.null, .null, .null, .null, .null, .null, .null, .null, .null, .null, .null, .null, .null, .int 0, .int 0, .int 0, .int 0, .int 0, .int 0]))] := h
  refine lv_dup C.1 C.2.1 dL_law_3 rfl ?_
  refine x_callIv (wr := []) C h (m_X11_init l D k z aK aV a) [0] [] rfl rfl (by decide) (by decide) (by decide) (xok_E hE h [0] rfl) (cwI 0 C.2.2.1 gl_wsX11_init rfl rfl rfl (C.2.2.1 _ gw_48.1) (C.2.2.1 _ gw_589.1) (C.2.2.1 _ gw_627.1) rfl (by decide +kernel) ⟨Nat.le_of_ble_eq_true rfl, Nat.le_of_ble_eq_true rfl⟩) rfl hl.1 rfl (Nat.le_of_ble_eq_true rfl) dL_law_4 ⟨Nat.le_of_ble_eq_true rfl, Nat.le_of_ble_eq_true rfl⟩ (fun q H locs _ h => ?_)
  have h : Hp D (fun q => s.heap.size ≤ q) s.heap H locs (xW k z a q) := h
  refine lv_astore_n (lv' := [(1, .ref a), (0, .ref b)]) C.1 C.2.1 dL_law_7 rfl hl (by decide) rfl (fun ls hl => ?_)
  refine x_new (fs := [.null, .int 0, .int 0, .int 0, .int 0, .int 0, .int 0, .long 0, .long 0, .int 0, .int 0, .int 0, .int 0, .int 0, .null, .null, .int 0, .null, .null, .null, .null, .null, .null, .null, .null, .null, .null, .null, .int 0, .null, .null, .null, .null, .null, .int 0, .null, .int 0, .null, .int 0, .null, .null, .int 0, .null, .null, .null, .null, .int 0, .int 0, .int 0, .null, .null, .null, .null, .null, .null, .null, .null, .null, .null, .null, .null, .int 0, .null, .null, .int 0, .int 0, .null, .null, .int 0, .null, .int 0, .int 0, .null, .long 0, .long 0, .long 0, .long 0, .long 0, .long 0, .int 0, .long 0, .long 0, .long 0, .long 0, .int 0, .null, .null, .null, .null, .null, .null, .null, .null, .null, .null, .int 0, .int 0, .null, .null, .null, .null, .null, .null, .null, .null, .null, .null, .null, .null, .null, .null, .null, .null, .null, .null, .int 0, .int 0, .int 0, .int 0, .int 0, .int 0, .int 0, .null, .null, .null, .null, .null, .null, .int 0, .int 0, .null, .null, .null, .null, .null, .null, .null, .null, .null, .int 0, .null, .null, .null, .null, .null, .null, .null, .null, .null, .int 0, .int 0, .int 0, .int 0]) C h 13 dL_law_8 rfl (fun w hw => (gu_X12 w hw).1) tyX12_ok gw_588.1 gw_702.1 gw_222.1 (by decide) (Nat.le_of_ble_eq_true rfl) (Nat.le_of_ble_eq_true rfl) (fun a2 H h => ?_)
  have h : Hp D (fun q => s.heap.size ≤ q) s.heap H locs (xW k z a q ++ [(a2, .inr (13, [.null, .int 0, .int 0, .int 0, .int 0, .int 0, .int 0, .long 0, .long 0, .int 0, .int 0, .int 0, .int 0, .int 0, .null, .null, .int 0, .null, .null, .null, .null, .null, .null, .null, .null, .null, .null, .null, .int 0, .null, .null, .null, .null, .null, .int 0, .null, .int 0, .null, .int 0, .null, .null, .int 0, .null, .null, .null, .null, .int 0, .int 0, .int 0, .null, .null, .null, .null, .null, .null, .null, .null, .null, .null, .null, .null, .int 0, .null, .null, .int 0, .int 0, .null, .null, .int 0, .null, .int 0, .int 0, .null, .long 0, .long 0, .long 0, .long 0, .long 0, .long 0, .int 0, .long 0, .long 0, .long 0, .long 0, .int 0, .null, .null, .null, .null, .null, .null, .null, .null, .null, .null, .int 0, .int 0, .null, .null, .null, .null, .null, .null, .null, .null, .null, .null, .null, .null, .null, .null, .null, .null, .null, .null, .int 0, .int 0, .int 0, .int 0, .int 0, .int 0, .int 0, .null, .null, .null, .null, .null, .null, .int 0, .int 0, .null, .null, .null, .null, .null, .null, .null, .null, .null, .int 0, .null, .null, .null, .null, .null, .null, .null, .null, .null, .int 0, .int 0, .int 0, .int 0]))]) := h
  refine lv_dup C.1 C.2.1 dL_law_11 rfl ?_
  refine x_callIv (wr := xW k z a q) C h (m_X12_init l D k a2) [56] [0, 1, 2, 3, 4, 5, 6, 7, 8, 9, 10, 11, 12, 13, 14, 15, 16, 17, 18, 19, 20, 21, 22, 23, 24, 25, 26, 27, 28, 29, 30, 31, 32, 33, 34, 35, 36, 37, 38, 39, 40, 41, 42, 43, 44, 45, 46, 47, 48, 49, 50, 51, 52, 53, 54, 55] rfl rfl (by decide) (by decide) (by decide) xok_T (cwI 0 C.2.2.1 gl_wsX12_init rfl rfl rfl (C.2.2.1 _ gw_222.1) (C.2.2.1 _ gw_590.1) (C.2.2.1 _ gw_628.1) rfl (by decide +kernel) ⟨Nat.le_of_ble_eq_true rfl, Nat.le_of_ble_eq_true rfl⟩) rfl hl.1 rfl (Nat.le_of_ble_eq_true rfl) dL_law_12 ⟨Nat.le_of_ble_eq_true rfl, Nat.le_of_ble_eq_true rfl⟩ (fun g H locs _ h => ?_)
  have h : Hp D (fun q => s.heap.size ≤ q) s.heap H locs (xW k z a q ++ mW0 k a2 g) := h
  refine lv_astore_n (lv' := [(2, .ref a2), (1, .ref a), (0, .ref b)]) C.1 C.2.1 dL_law_15 rfl hl (by decide) rfl (fun ls hl => ?_)
  refine lv_iconst (v := 0) C.1 C.2.1 dL_law_16 (by decide) ?_
  refine lv_istore_n (lv' := [(3, .int 0), (2, .ref a2), (1, .ref a), (0, .ref b)]) C.1 C.2.1 dL_law_17 rfl hl (by decide) rfl (fun ls hl => ?_)
  exact lx_head C hr hlocks hX hbl hE hL (by decide) (by decide) hl h
