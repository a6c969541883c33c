/-! play -/
def RFq (τ0 τ : St) : Prop := (∀ f i, f ≠ 84 → f ≠ 96 → f ≠ 139 → f ≠ 129 → fl τ f i = fl τ0 f i) ∧ ∀ a j : Int, (18 < a ∧ a < 29) ∨ 52 < a → el τ a j = el τ0 a j
theorem RFq.same {τ0 τ : St} (h : RFq τ0 τ) : SameR τ0 τ := ⟨fun f hf => h.1 f 0 (by unfold inR at hf; omega) (by unfold inR at hf; omega) (by unfold inR at hf; omega) (by unfold inR at hf; omega), fun a j ha => h.2 a j (by unfold inA at ha; omega)⟩
/-- what both have heard -/
def BH (σ τ : St) (P : List Ht) : Prop := At (HE σ) 0 P ∧ At (HH τ) 0 P ∧ fl σ 68 33 = P.length ∧ fl τ 129 0 = P.length ∧ P.length ≤ 400 ∧ ∀ h ∈ P, okH h
section PL
variable {N : Nat} {π : Sh}
theorem both_beat (hB : Big N) {σ τ : St} {c : Int} (hS : SHs π) (hT : RTw PRn π σ τ) (hM : RMs σ τ) (hY : KY σ) (hsd : fl σ 161 9 = fl τ 95 0 ∧ i32 (fl τ 95 0)) (hc : fl τ 115 0 = c) (hcb : 0 ≤ c ∧ c ≤ 100000) {lo hi : Int} (hlo : 0 ≤ lo ∧ lo ≤ 960) (hhi : 0 ≤ hi ∧ hi ≤ 960) {P : List Ht} (hP : BH σ τ P) : ∃ (σ' τ' : St) (h : Int) (P' : List Ht), Cs_hearCycle N π σ c lo hi = some (σ', h) ∧ r_beat N τ lo hi = some (τ', h) ∧ (0 ≤ h ∧ h ≤ 3200) ∧ CFr 0 σ σ' ∧ RFq τ τ' ∧ KY σ' ∧ BH σ' τ' P' := by
  obtain ⟨b1, b2, b3, b4, b5, b6⟩ := hP
  have hN := hB.n
  have hr0 : RFr τ (sf τ 139 0 0) := ⟨fun f i _ _ z => fl_sfn _ _ _ _ z, fun _ _ _ => rfl⟩
  have k0 : kpt P.length [] = [] := by unfold kpt isoL isoA; exact List.take_nil
  obtain ⟨σ', τ1, H, q1, q2, q3, q4, q5, q6, q7, q8, q9, q10, q11⟩ := both_tracks hB (F := P.length) hS hT hM hsd hc hcb b5 hlo hhi 8 N N 0 σ (sf τ 139 0 0) [] (by omega) (by omega) (by omega) (by omega) (CFr.rf _ _) hr0 hY (by rw [k0]; trivial) (by rw [k0, b3]; simp) trivial (fl_sfs _ _ _ _) (by simp) (by simp)
  obtain ⟨τ2, r1, r2, r3, r4⟩ := r_arr_lp (N := N) (H := H) (by omega) (by omega) H N τ1 [] (by omega) trivial q8 List.Pairwise.nil (by simp) (fun h hh => (q11 h hh).1) (by simp) q9
  have pl := pxL_len H 0
  have il : (isoA ltP [] (pxL (([] : List Px).length : Int) H)).length = H.length := by
    rw [isoA_len, List.length_nil, Nat.zero_add]
    exact pl
  have pm : ∀ x ∈ isoA ltP [] (pxL (([] : List Px).length : Int) H), x.2 ∈ H := fun x hx => by
    have := (isoA_perm ltP (pxL (([] : List Px).length : Int) H) []).mem_iff.1 hx
    rw [List.nil_append] at this
    exact (pxL_mem this).2
  have f129 : fl τ2 129 0 = P.length := by rw [r2, q4.1 129 0 (by decide) (by decide) (by decide)]; exact b4
  obtain ⟨τ3, s1, s2, s3, s4, s5⟩ := r_hear_lp (N := N) (F := P.length) (H := (H.length : Int)) (by omega) (c := c) (isoA ltP [] (pxL (([] : List Px).length : Int) H)) N τ2 [] 0 (by omega) r4 trivial (by rw [f129]; simp) (by simp; omega) (by rw [r2, q4.1 115 0 (by decide) (by decide) (by decide)]; exact hc) (Int.le_refl _) (by omega) (by rw [r2]; exact q9) (fun x hx => (q11 x.2 (pm x hx)).2)
  have em : ([] ++ (isoA ltP [] (pxL (([] : List Px).length : Int) H)).map Prod.snd).take (400 - P.length) = kpt P.length H := by
    rw [List.nil_append, isoA_map ltH ltP Prod.snd (fun a b => rfl), pxL_snd]
    rfl
  rw [em] at s4 s5
  have kl' := kpt_len P.length H
  have fa : ∀ a j : Int, (9 < a ∧ a < 29 ∧ (a < 10 ∨ 18 < a ∨ j < P.length)) ∨ 52 < a → el τ3 a j = el τ a j := fun a j ha => by
    rw [s3 a j (by omega), r3 a j (by omega), q4.2 a j (by omega)]
  refine ⟨σ', τ3, H.length, P ++ kpt P.length H, ?_, ?_, ⟨by omega, by omega⟩, ⟨q3.1, fun a j ha => ?_⟩, ⟨fun f i x y z w => ?_, fun a j ha => fa a j (by omega)⟩, q5, ?_⟩
  · rw [Cs_hearCycle, c_anyAlone (by omega) hM, Option.bind_some, b3]
    exact q1
  · rw [r_beat, q2, r_arrange]
    have e0 : (([] : List Px).length : Int) = 0 := rfl
    rw [e0] at r1
    rw [r1, Option.bind_some, s1]
  · exact q3.2 a j (by omega)
  · rw [s2 f i w, r2, q4.1 f i x y z]
  · refine ⟨At.app (b1.mono (fun i e i0 i1 _ he => ?_)) (by rw [Int.zero_add]; exact q6), At.app (b2.mono (fun i e i0 i1 _ he => HH.fr (fun a x y => fa a i (by omega)) he)) (by rw [Int.zero_add]; exact s5), by rw [q7, List.length_append]; omega, by rw [s4, List.length_append]; omega, by rw [List.length_append]; omega, fun h hh => ?_⟩
    · unfold HE at he ⊢
      rw [q3.2 34 i (by omega), q3.2 35 i (by omega), q3.2 36 i (by omega), q3.2 37 i (by omega), q3.2 38 i (by omega), q3.2 39 i (by omega), q3.2 40 i (by omega), q3.2 41 i (by omega)]
      exact he
    · rcases List.mem_append.1 hh with hh | hh
      · exact b6 h hh
      · exact (q11 h (kpt_mem hh)).1
/-- what play leaves alone -/
def CP (σ0 σ : St) : Prop := (∀ f i, f ≠ 46 → f ≠ 52 → f ≠ 53 → f ≠ 253 → f ≠ 68 ∨ i ≠ 33 → fl σ f i = fl σ0 f i) ∧ ∀ a j : Int, a < 11 ∨ (23 < a ∧ a < 34) ∨ (41 < a ∧ a < 51) ∨ 53 < a → el σ a j = el σ0 a j
def RPl (τ0 τ : St) : Prop := (∀ f i, f ≠ 84 → f ≠ 96 → f ≠ 139 → f ≠ 129 → f ≠ 115 → f ≠ 116 → fl τ f i = fl τ0 f i) ∧ ∀ a j : Int, (18 < a ∧ a < 27) ∨ 52 < a → el τ a j = el τ0 a j
theorem CP.tr {σ σ1 σ2 : St} (h : CP σ σ1) (k : CP σ1 σ2) : CP σ σ2 := ⟨fun f i a b c d e => (k.1 f i a b c d e).trans (h.1 f i a b c d e), fun a j x => (k.2 a j x).trans (h.2 a j x)⟩
theorem RPl.tr {τ τ1 τ2 : St} (h : RPl τ τ1) (k : RPl τ1 τ2) : RPl τ τ2 := ⟨fun f i a b c d e g => (k.1 f i a b c d e g).trans (h.1 f i a b c d e g), fun a j x => (k.2 a j x).trans (h.2 a j x)⟩
/-- between the parts of a play -/
def Pi (π : Sh) (σ τ : St) : Prop := RTk PRn π σ τ ∧ RMs σ τ ∧ KY σ ∧ (fl σ 161 9 = fl τ 95 0 ∧ i32 (fl τ 95 0)) ∧ (fl σ 253 0 = 960 * fl τ 115 0 + fl τ 116 0 ∧ 0 ≤ fl τ 115 0 ∧ 0 ≤ fl τ 116 0 ∧ fl τ 116 0 < 960) ∧ ∃ P, BH σ τ P
theorem BH.fr {σ τ σ' τ' : St} {P : List Ht} (h : BH σ τ P) (f1 : fl σ' 68 33 = fl σ 68 33) (f2 : fl τ' 129 0 = fl τ 129 0) (e1 : ∀ a j, 34 ≤ a → a ≤ 41 → el σ' a j = el σ a j) (e2 : ∀ a j, 10 ≤ a → a ≤ 18 → el τ' a j = el τ a j) : BH σ' τ' P := by
  obtain ⟨b1, b2, b3, b4, b5, b6⟩ := h
  refine ⟨b1.mono (fun i e _ _ _ he => ?_), b2.mono (fun i e _ _ _ he => HH.fr (fun a x y => e2 a i x y) he), by rw [f1]; exact b3, by rw [f2]; exact b4, b5, b6⟩
  unfold HE at he ⊢
  rw [e1 34 i (by decide) (by decide), e1 35 i (by decide) (by decide), e1 36 i (by decide) (by decide), e1 37 i (by decide) (by decide), e1 38 i (by decide) (by decide), e1 39 i (by decide) (by decide), e1 40 i (by decide) (by decide), e1 41 i (by decide) (by decide)]
  exact he
variable {DR : DRt}
theorem both_play (hB : Big N) (hI : Inn PRn DR) (hS : SHs π) {E : Int} (hE : E ≤ 96000000) : ∀ (m n n' : Nat) (σ τ : St) (left cnt x4 : Int), m < n → m < n' → (left = 0 ∨ fl τ 116 0 + left ≤ 960 * m) → 0 ≤ left → left ≤ 3840 → fl σ 253 0 + left = E → Pi π σ τ → 0 ≤ x4 → x4 + m ≤ 3840 → 0 ≤ cnt → cnt + 3200 * m ≤ 16000 → ∃ σ' τ' cnt', Cs_play_45 N π n σ E cnt x4 = some (sf σ' 254 0 (fl σ' 254 0 + cnt'), cnt') ∧ r_play_54 N n' τ left cnt = some (sf τ' 117 0 (fl τ' 117 0 + cnt'), cnt') ∧ (0 ≤ cnt' ∧ cnt' ≤ 16000) ∧ Pi π σ' τ' ∧ fl σ' 253 0 = E ∧ CP σ σ' ∧ RPl τ τ' := by
  have hN := hB.n
  have done : ∀ (n n' m : Nat) (σ τ : St) (cnt x4 : Int), 0 < n → 0 < n' → fl σ 253 0 = E → Pi π σ τ → 0 ≤ x4 → x4 + m ≤ 3840 → 0 ≤ cnt → cnt + 3200 * m ≤ 16000 → ∃ σ' τ' cnt', Cs_play_45 N π n σ E cnt x4 = some (sf σ' 254 0 (fl σ' 254 0 + cnt'), cnt') ∧ r_play_54 N n' τ 0 cnt = some (sf τ' 117 0 (fl τ' 117 0 + cnt'), cnt') ∧ (0 ≤ cnt' ∧ cnt' ≤ 16000) ∧ Pi π σ' τ' ∧ fl σ' 253 0 = E ∧ CP σ σ' ∧ RPl τ τ' := by
    intro n n' m σ τ cnt x4 hn hn' h253 hP x0 hx c0 hc
    obtain ⟨-, -, -, -, ⟨t1, t2, t3, t4⟩, -⟩ := id hP
    cases n with
    | zero => omega
    | succ n =>
      cases n' with
      | zero => omega
      | succ n' =>
        refine ⟨σ, τ, cnt, ?_, ?_, ⟨c0, by omega⟩, hP, h253, ⟨fun _ _ _ _ _ _ _ => rfl, fun _ _ _ => rfl⟩, ⟨fun _ _ _ _ _ _ _ _ => rfl, fun _ _ _ => rfl⟩⟩
        · rw [Cs_play_45, grd_t (by exact ⟨by omega, by omega⟩), if_neg (by omega), h253, grd_t (by exact ⟨by omega, by omega⟩), grd_t (by exact ⟨by omega, by omega⟩), if_neg (by omega), Cs_play_130]
        · rw [r_play_54, grd_t (by decide), if_neg (by decide)]
  intro m
  induction m with
  | zero =>
    intro n n' σ τ left cnt x4 hn hn' hl l0 l1 hE' hP x0 hx c0 hc
    have z : left = 0 := by
      have := hP.2.2.2.2.1.2.2.1
      rcases hl with hl | hl <;> omega
    subst z
    exact done n n' 0 σ τ cnt x4 (by omega) (by omega) (by omega) hP x0 hx c0 hc
  | succ m ih =>
    intro n n' σ τ left cnt x4 hn hn' hl l0 l1 hE' hP x0 hx c0 hc
    by_cases lz : left = 0
    · subst lz
      exact done n n' (m + 1) σ τ cnt x4 (by omega) (by omega) (by omega) hP x0 hx c0 hc
    · have hl : fl τ 116 0 + left ≤ 960 * ((m + 1 : Nat) : Int) := by
        rcases hl with hl | hl
        · exact absurd hl lz
        · exact hl
      obtain ⟨hT, hM, hY, hsd, ⟨t1, t2, t3, t4⟩, P, hBH⟩ := id hP
      cases n with
      | zero => omega
      | succ n =>
        cases n' with
        | zero => omega
        | succ n' =>
          obtain ⟨s, hs⟩ : ∃ s : Int, s = if left < 960 - fl τ 116 0 then left else 960 - fl τ 116 0 := ⟨_, rfl⟩
          have s1 : 1 ≤ s ∧ s ≤ left ∧ fl τ 116 0 + s ≤ 960 ∧ (s = left ∨ fl τ 116 0 + s = 960) := by rw [hs]; split <;> omega
          obtain ⟨σ1, τ1, h, P1, q1, q2, ⟨q3, q3'⟩, q4, q5, q6, q7⟩ := both_beat hB (lo := fl τ 116 0) (hi := fl τ 116 0 + s) hS hT.w hM hY hsd rfl ⟨t2, by omega⟩ ⟨t3, by omega⟩ ⟨by omega, by omega⟩ hBH
          have hR := hT.w
          have hW : RTw PRn π (sf σ1 253 0 (960 * fl τ 115 0 + (fl τ 116 0 + s))) τ1 := fun t a b => by
            have hC : SameC σ (sf σ1 253 0 (960 * fl τ 115 0 + (fl τ 116 0 + s))) := q4.same.sf _ _ (nF (by omega))
            obtain ⟨k1, k2⟩ := hR t a b
            rw [el_sf, el_sf, el_sf, q4.2 51 t (by omega), q4.2 52 t (by omega), q4.2 53 t (by omega), q5.2 28 t (by omega), q5.2 27 t (by omega)]
            refine ⟨k1.same hC q5.same, ?_⟩
            rcases k2 with k2 | ⟨k2, k3⟩
            · exact Or.inl k2
            · exact Or.inr ⟨k2, k3.same hC q5.same⟩
          have td : Int.tdiv (fl σ 253 0) 960 = fl τ 115 0 := by rw [td_pos (by omega)]; omega
          have cst : ∀ X, Option.bind (Cs_settle N π (sf σ1 253 0 (960 * fl τ 115 0 + (fl τ 116 0 + s)))) (fun r27 => Cs_play_45 N π n r27 E (cnt + h) (x4 + 1)) = X → Cs_play_45 N π (n + 1) σ E cnt x4 = X := by
            intro X hX
            rw [Cs_play_45, grd_t (by exact ⟨by omega, by omega⟩), if_neg (by omega), grd_t (by exact ⟨by omega, by omega⟩), grd_t (by exact ⟨by omega, by omega⟩), if_pos (by omega), td, bnd, grd_t (by exact ⟨by omega, by omega⟩), bnd, show min E ((fl τ 115 0 + 1) * 960) = 960 * fl τ 115 0 + (fl τ 116 0 + s) by omega, show fl σ 253 0 - fl τ 115 0 * 960 = fl τ 116 0 by omega, show 960 * fl τ 115 0 + (fl τ 116 0 + s) - fl τ 115 0 * 960 = fl τ 116 0 + s by omega, q1, Option.bind_some, bnd, bnd]
            exact hX
          have f116 : fl τ1 116 0 = fl τ 116 0 := q5.1 116 0 (by decide) (by decide) (by decide) (by decide)
          have f115 : fl τ1 115 0 = fl τ 115 0 := q5.1 115 0 (by decide) (by decide) (by decide) (by decide)
          have rst : ∀ X, (if fl τ 116 0 + s < 960 then r_play_54 N n' (sf τ1 116 0 (fl τ 116 0 + s)) (left - s) (cnt + h) else Option.bind (r_swaps N (sf (sf (sf τ1 116 0 (fl τ 116 0 + s)) 116 0 0) 115 0 (fl τ 115 0 + 1))) (fun r24 => r_play_54 N n' r24 (left - s) (cnt + h))) = X → r_play_54 N (n' + 1) τ left cnt = X := by
            intro X hX
            have h85 : r_play_85 N (r_play_54 N n') τ left cnt s = X := by
              rw [r_play_85, q2, Option.bind_some, bnd, bnd, f116, f115, grd_t (by exact ⟨by omega, by omega⟩)]
              exact hX
            rw [r_play_54, grd_t (by exact ⟨by omega, by omega⟩), if_pos (by omega), grd_t (by exact ⟨by omega, by omega⟩)]
            by_cases d : left < 960 - fl τ 116 0
            · rw [if_pos d]
              rw [if_pos d] at hs
              rw [hs] at h85
              exact h85
            · rw [if_neg d]
              rw [if_neg d] at hs
              rw [← hs]
              exact h85
          by_cases cb : fl τ 116 0 + s < 960
          · -- the end of the play, within the cycle
            have sl : s = left := by omega
            have P2 : Pi π (sf σ1 253 0 (960 * fl τ 115 0 + (fl τ 116 0 + s))) (sf τ1 116 0 (fl τ 116 0 + s)) := by
              refine ⟨fun t a b => ?_, ?_, ?_, ?_, ?_, P1, ?_⟩
              · obtain ⟨k1, k2⟩ := hW t a b
                have hR2 : SameR τ1 (sf τ1 116 0 (fl τ 116 0 + s)) := (SameR.rf τ1).sf _ _ (by unfold inR; omega)
                refine ⟨k1.same (SameC.rf _) hR2, ?_⟩
                rcases k2 with k2 | ⟨k2, k3⟩
                · exact Or.inl k2
                · exact Or.inr ⟨k2, k3.same (SameC.rf _) hR2, by rw [fl_sfs]; omega⟩
              · exact hM.stl (fun j => q4.2 54 j (by omega)) (fun j => q4.2 55 j (by omega)) (fun j => q5.2 26 j (by omega)) (fun j => q5.2 25 j (by omega))
              · unfold KY at q6 ⊢
                rw [fl_sfn _ _ _ _ (by decide), fl_sfn _ _ _ _ (by decide)]
                exact q6
              · rw [fl_sfn _ _ _ _ (by decide), fl_sfn _ _ _ _ (by decide), q4.1 161 9 (by decide) (by decide) (by decide) (by decide), q5.1 95 0 (by decide) (by decide) (by decide) (by decide)]
                exact hsd
              · rw [fl_sfs, fl_sfs, fl_sfn _ _ _ _ (by decide), f115]
                exact ⟨rfl, t2, by omega, cb⟩
              · exact q7.fr (fl_sfn _ _ _ _ (by decide)) (fl_sfn _ _ _ _ (by decide)) (fun _ _ _ _ => rfl) (fun _ _ _ _ => rfl)
            obtain ⟨σ', τ', cnt', z1, z2, z3, z4, z5, z6, z7⟩ := done n n' m (sf σ1 253 0 (960 * fl τ 115 0 + (fl τ 116 0 + s))) (sf τ1 116 0 (fl τ 116 0 + s)) (cnt + h) (x4 + 1) (by omega) (by omega) (by rw [fl_sfs]; omega) P2 (by omega) (by omega) (by omega) (by omega)
            refine ⟨σ', τ', cnt', cst _ ?_, rst _ ?_, z3, z4, z5, CP.tr ⟨fun f i a b c d e => ?_, fun a j ha => ?_⟩ z6, RPl.tr ⟨fun f i a b c d e g => ?_, fun a j ha => ?_⟩ z7⟩
            · rw [Cs_settle, fl_sfs, grd_t (by exact ⟨by omega, by omega⟩), tm_pos (by omega), grd_t (by exact ⟨by omega, by omega⟩), if_neg (by omega), Option.bind_some, z1]
            · rw [if_pos cb, show left - s = 0 by omega, z2]
            · rw [fl_sfn _ _ _ _ d, q4.1 f i a b c e]
            · rw [el_sf, q4.2 a j (by omega)]
            · rw [fl_sfn _ _ _ _ g, q5.1 f i a b c d]
            · rw [el_sf, q5.2 a j (by omega)]
          · -- the end of a cycle
            have s9 : fl τ 116 0 + s = 960 := by omega
            have hR2 : SameR τ1 (sf (sf (sf τ1 116 0 (fl τ 116 0 + s)) 116 0 0) 115 0 (fl τ 115 0 + 1)) := (((SameR.rf τ1).sf _ _ (by unfold inR; omega)).sf _ _ (by unfold inR; omega)).sf _ _ (by unfold inR; omega)
            have hW2 : RTw PRn π (sf σ1 253 0 (960 * fl τ 115 0 + (fl τ 116 0 + s))) (sf (sf (sf τ1 116 0 (fl τ 116 0 + s)) 116 0 0) 115 0 (fl τ 115 0 + 1)) := fun t a b => by
              obtain ⟨k1, k2⟩ := hW t a b
              refine ⟨k1.same (SameC.rf _) hR2, ?_⟩
              rcases k2 with k2 | ⟨k2, k3⟩
              · exact Or.inl k2
              · exact Or.inr ⟨k2, k3.same (SameC.rf _) hR2⟩
            obtain ⟨σ2, τ2, u1, u2, u3, u4, u5⟩ := both_settle hI (N := N) (by omega) hW2
            have cc : ∀ f i, f ≠ 46 → f ≠ 52 → f ≠ 53 → f ≠ 253 → f ≠ 68 ∨ i ≠ 33 → fl σ2 f i = fl σ f i := fun f i a b c d e => by
              rw [u3.1, fl_sfn _ _ _ _ d, q4.1 f i a b c e]
            have ca : ∀ a j : Int, a < 11 ∨ (23 < a ∧ a < 34) ∨ (41 < a ∧ a < 51) ∨ 53 < a → el σ2 a j = el σ a j := fun a j ha => by
              rw [u3.2.1 a j (by omega), el_sf, q4.2 a j (by omega)]
            have rr : ∀ f i, f ≠ 84 → f ≠ 96 → f ≠ 139 → f ≠ 129 → f ≠ 115 → f ≠ 116 → fl τ2 f i = fl τ f i := fun f i a b c d e g => by
              rw [u4.1, fl_sfn _ _ _ _ e, fl_sfn _ _ _ _ g, fl_sfn _ _ _ _ g, q5.1 f i a b c d]
            have ra : ∀ a j : Int, (18 < a ∧ a < 27) ∨ 52 < a → el τ2 a j = el τ a j := fun a j ha => by
              rw [u4.2.1 a j (by omega), el_sf, el_sf, el_sf, q5.2 a j (by omega)]
            have g253 : fl σ2 253 0 = 960 * fl τ 115 0 + (fl τ 116 0 + s) := by rw [u3.1, fl_sfs]
            have g115 : fl τ2 115 0 = fl τ 115 0 + 1 := by rw [u4.1, fl_sfs]
            have g116 : fl τ2 116 0 = 0 := by rw [u4.1, fl_sfn _ _ _ _ (by decide), fl_sfs]
            have P2 : Pi π σ2 τ2 := by
              refine ⟨u5, ?_, ?_, ?_, ?_, P1, ?_⟩
              · exact hM.stl (fun j => ca 54 j (by omega)) (fun j => ca 55 j (by omega)) (fun j => ra 26 j (by omega)) (fun j => ra 25 j (by omega))
              · unfold KY at q6 ⊢
                rw [u3.1, u3.1, fl_sfn _ _ _ _ (by decide), fl_sfn _ _ _ _ (by decide)]
                exact q6
              · rw [cc 161 9 (by decide) (by decide) (by decide) (by decide) (by decide), rr 95 0 (by decide) (by decide) (by decide) (by decide) (by decide) (by decide)]
                exact hsd
              · rw [g253, g115, g116]
                exact ⟨by omega, by omega, by omega, by omega⟩
              · refine q7.fr ?_ ?_ (fun a j x y => ?_) (fun a j x y => ?_)
                · rw [u3.1, fl_sfn _ _ _ _ (by decide)]
                · rw [u4.1, fl_sfn _ _ _ _ (by decide), fl_sfn _ _ _ _ (by decide), fl_sfn _ _ _ _ (by decide)]
                · rw [u3.2.1 a j (by omega), el_sf]
                · rw [u4.2.1 a j (by omega), el_sf, el_sf, el_sf]
            obtain ⟨σ', τ', cnt', z1, z2, z3, z4, z5, z6, z7⟩ := ih n n' σ2 τ2 (left - s) (cnt + h) (x4 + 1) (by omega) (by omega) (Or.inr (by rw [g116]; omega)) (by omega) (by omega) (by rw [g253]; omega) P2 (by omega) (by omega) (by omega) (by omega)
            refine ⟨σ', τ', cnt', cst _ ?_, rst _ ?_, z3, z4, z5, CP.tr ⟨cc, ca⟩ z6, RPl.tr ⟨rr, ra⟩ z7⟩
            · rw [Cs_settle, fl_sfs, grd_t (by exact ⟨by omega, by omega⟩), tm_pos (by omega), grd_t (by exact ⟨by omega, by omega⟩), if_pos (by omega), u1, Option.bind_some, z1]
            · rw [if_neg cb, u2, Option.bind_some, z2]
theorem st_play {n : Nat} (hB : Big N) (hI : Inn PRn DR) (hn : n < 512) : St_play N (RO PRn DR RWd n) (RO PRn DR RWd (n + 1)) := by
  intro π σ τ x1 h i1
  obtain ⟨h1, h2, h3, h4, h5, h6, h7, h8⟩ := id h
  have hN := hB.n
  obtain ⟨⟨m1, m2, m3, m4, m5⟩, ⟨m6, m7, m8⟩, ⟨m9, m10, m11⟩, m12⟩ := id h3
  by_cases c1 : x1 < 1
  · refine ⟨σ, τ, -1, ?_, ?_, h.up hI hn⟩
    · rw [Cs_play, grd_t i1, if_pos c1]
    · rw [r_play, grd_t i1, if_pos c1]
  · by_cases c2 : 3840 < x1
    · refine ⟨σ, τ, -1, ?_, ?_, h.up hI hn⟩
      · rw [Cs_play, grd_t i1, if_neg c1, if_pos c2]
      · rw [r_play, grd_t i1, if_neg c1, if_pos c2]
    · by_cases c3 : 96000000 < fl σ 253 0 + x1
      · refine ⟨σ, τ, -1, ?_, ?_, h.up hI hn⟩
        · rw [Cs_play, grd_t i1, if_neg c1, if_neg c2, grd_t (by exact ⟨by omega, by omega⟩), if_pos c3]
        · rw [r_play, grd_t i1, if_neg c1, if_neg c2, grd_t (by exact ⟨by omega, by omega⟩), grd_t (by exact ⟨by omega, by omega⟩), bnd, grd_t (by exact ⟨by omega, by omega⟩), if_pos (by omega)]
      · have hC0 : SameC σ (sf σ 68 33 0) := (SameC.rf σ).sf _ _ (nF (by omega))
        have hR0 : SameR τ (sf τ 129 0 0) := (SameR.rf τ).sf _ _ (by unfold inR; omega)
        have hP : Pi π (sf σ 68 33 0) (sf τ 129 0 0) := by
          refine ⟨h5.same hI hC0 hR0 (fun _ _ _ => ⟨rfl, rfl, rfl, rfl, rfl⟩) (fl_sfn _ _ _ _ (by decide)), h4, ?_, ?_, ?_, [], trivial, trivial, fl_sfs _ _ _ _, fl_sfs _ _ _ _, by simp, by simp⟩
          · unfold KY
            rw [fl_sfn _ _ _ _ (by decide), fl_sfn _ _ _ _ (by decide)]
            exact m11
          · rw [fl_sfn _ _ _ _ (by decide), fl_sfn _ _ _ _ (by decide)]
            exact ⟨m9, m10⟩
          · rw [fl_sfn _ _ _ _ (by decide), fl_sfn _ _ _ _ (by decide), fl_sfn _ _ _ _ (by decide)]
            exact ⟨m1, m2, m3, m4⟩
        have f253 : fl (sf σ 68 33 0) 253 0 = fl σ 253 0 := fl_sfn _ _ _ _ (by decide)
        have f116 : fl (sf τ 129 0 0) 116 0 = fl τ 116 0 := fl_sfn _ _ _ _ (by decide)
        obtain ⟨σ1, τ1, cnt, z1, z2, ⟨z3, z3'⟩, ⟨w1, w2, w3, w4, ⟨w5, w6, w7, w8⟩, P, wP⟩, z5, z6, z7⟩ := both_play hB hI h1.1 (E := fl σ 253 0 + x1) (by omega) 5 N N (sf σ 68 33 0) (sf τ 129 0 0) x1 0 0 (by omega) (by omega) (Or.inr (by rw [f116]; omega)) (by omega) (by omega) (by rw [f253]) hP (by omega) (by omega) (by omega) (by omega)
        have k1 : Cs_play N π σ x1 = some (sf σ1 254 0 (fl σ1 254 0 + cnt), cnt) := by
          rw [Cs_play, grd_t i1, if_neg c1, if_neg c2, grd_t (by exact ⟨by omega, by omega⟩), if_neg c3, bnd]
          exact z1
        have cf : ∀ f i, f ≠ 46 → f ≠ 52 → f ≠ 53 → f ≠ 253 → f ≠ 254 → f ≠ 68 ∨ i ≠ 33 → fl (sf σ1 254 0 (fl σ1 254 0 + cnt)) f i = fl σ f i := fun f i a b c d g e => by
          rw [fl_sfn _ _ _ _ g, z6.1 f i a b c d e, fl_sf, if_neg (by omega)]
        have ca : ∀ a j : Int, a < 11 ∨ (23 < a ∧ a < 34) ∨ (41 < a ∧ a < 51) ∨ 53 < a → el (sf σ1 254 0 (fl σ1 254 0 + cnt)) a j = el σ a j := fun a j ha => by
          rw [el_sf, z6.2 a j ha, el_sf]
        have rf : ∀ f i, f ≠ 84 → f ≠ 96 → f ≠ 139 → f ≠ 129 → f ≠ 115 → f ≠ 116 → f ≠ 117 → fl (sf τ1 117 0 (fl τ1 117 0 + cnt)) f i = fl τ f i := fun f i a b c d e g k => by
          rw [fl_sfn _ _ _ _ k, z7.1 f i a b c d e g, fl_sfn _ _ _ _ d]
        have ra : ∀ a j : Int, (18 < a ∧ a < 27) ∨ 52 < a → el (sf τ1 117 0 (fl τ1 117 0 + cnt)) a j = el τ a j := fun a j ha => by
          rw [el_sf, z7.2 a j ha, el_sf]
        have hC : SameC σ (sf σ1 254 0 (fl σ1 254 0 + cnt)) := ⟨fun f i hf => cf f i (by unfold inF at hf; omega) (by unfold inF at hf; omega) (by unfold inF at hf; omega) (by unfold inF at hf; omega) (by unfold inF at hf; omega) (by unfold inF at hf; omega), fun a j ha => ca a j (by omega)⟩
        have hR : SameR τ (sf τ1 117 0 (fl τ1 117 0 + cnt)) := ⟨fun f hf => rf f 0 (by unfold inR at hf; omega) (by unfold inR at hf; omega) (by unfold inR at hf; omega) (by unfold inR at hf; omega) (by unfold inR at hf; omega) (by unfold inR at hf; omega) (by unfold inR at hf; omega), fun a j ha => ra a j (by unfold inA at ha; omega)⟩
        refine ⟨sf σ1 254 0 (fl σ1 254 0 + cnt), sf τ1 117 0 (fl τ1 117 0 + cnt), cnt, k1, ?_, km_Cs_play h1 k1, ?_, ?_, ?_, ?_, ?_, ?_, hI.2.1 _ _ _ _ _ _ hn hC hR (by rw [rf 1 0 (by decide) (by decide) (by decide) (by decide) (by decide) (by decide) (by decide)]; have := h2.2.1; omega) h8⟩
        · rw [r_play, grd_t i1, if_neg c1, if_neg c2, grd_t (by exact ⟨by omega, by omega⟩), grd_t (by exact ⟨by omega, by omega⟩), bnd, grd_t (by exact ⟨by omega, by omega⟩), if_neg (by omega)]
          exact z2
        · exact h2.stl (cf _ _ (by decide) (by decide) (by decide) (by decide) (by decide) (by decide)) (rf _ _ (by decide) (by decide) (by decide) (by decide) (by decide) (by decide) (by decide)) (fun j => ca 2 j (by omega)) (fun j => ra 97 j (by omega))
        · have g254 : fl σ1 254 0 = fl σ 254 0 := by rw [z6.1 254 0 (by decide) (by decide) (by decide) (by decide) (by decide), fl_sfn _ _ _ _ (by decide)]
          have g117 : fl τ1 117 0 = fl τ 117 0 := by rw [z7.1 117 0 (by decide) (by decide) (by decide) (by decide) (by decide) (by decide), fl_sfn _ _ _ _ (by decide)]
          unfold RTm
          rw [cf 255 0 (by decide) (by decide) (by decide) (by decide) (by decide) (by decide), cf 256 0 (by decide) (by decide) (by decide) (by decide) (by decide) (by decide), cf 257 0 (by decide) (by decide) (by decide) (by decide) (by decide) (by decide), cf 258 0 (by decide) (by decide) (by decide) (by decide) (by decide) (by decide), rf 118 0 (by decide) (by decide) (by decide) (by decide) (by decide) (by decide) (by decide), rf 119 0 (by decide) (by decide) (by decide) (by decide) (by decide) (by decide) (by decide), rf 120 0 (by decide) (by decide) (by decide) (by decide) (by decide) (by decide) (by decide), fl_sfs, fl_sfs, fl_sfn _ _ _ _ (by decide), fl_sfn _ _ _ _ (by decide), fl_sfn _ _ _ _ (by decide), fl_sfn _ _ _ _ (by decide), fl_sfn _ _ _ _ (by decide), g254, g117]
          refine ⟨⟨w5, w6, w7, w8, by omega⟩, ⟨by omega, by omega, by omega⟩, ⟨w4.1, w4.2, ?_⟩, m12⟩
          unfold KY at w3 ⊢
          rw [fl_sfn _ _ _ _ (by decide), fl_sfn _ _ _ _ (by decide)]
          exact w3
        · exact w2
        · exact w1.same hI ((SameC.rf σ1).sf _ _ (nF (by omega))) ((SameR.rf τ1).sf _ _ (by unfold inR; omega)) (fun _ _ _ => ⟨rfl, rfl, rfl, rfl, rfl⟩) (fl_sfn _ _ _ _ (by decide))
        · exact h6.stl (cf _ _ (by decide) (by decide) (by decide) (by decide) (by decide) (by decide)) (rf _ _ (by decide) (by decide) (by decide) (by decide) (by decide) (by decide) (by decide)) (rf _ _ (by decide) (by decide) (by decide) (by decide) (by decide) (by decide) (by decide)) (fun a j x y => ca a j (by omega)) (fun a j x y => ra a j (by omega))
        · obtain ⟨b1, b2, b3, b4, b5, b6⟩ := wP
          have key : RKh RWd σ1 τ1 := by
            refine ⟨by rw [b3, b4], by rw [b4]; omega, by rw [b4]; omega, fun k k0 k1 => ?_⟩
            rw [b4] at k1
            obtain ⟨e, he, ⟨s1, s2, s3, s4, s5, s6⟩, ⟨r1, r2, r3, r4, r5, r6, r7, r8, r9⟩⟩ := At.both b1 b2 k k0 (by omega)
            obtain ⟨⟨o1, o2⟩, o3, ⟨o4, o5⟩, ⟨o6, o7⟩, ⟨o8, o9⟩, -⟩ := b6 e he
            obtain ⟨y1, y2⟩ := s6.kept
            rw [s1, s2, s3, s4, s5, r1, r2, r3, r4, r5, r6, r7, r8, r9]
            exact ⟨⟨o4, o5, rfl⟩, ⟨rfl, o6, o7⟩, ⟨rfl, o8, o9⟩, ⟨rfl, ⟨by omega, by omega⟩, rfl, o3⟩, y1, y2⟩
          exact key.stl (fl_sfn _ _ _ _ (by decide)) (fl_sfn _ _ _ _ (by decide)) (fun _ _ _ _ => rfl) (fun _ _ _ _ => rfl)
end PL
