/-! what is heard of a part of a cycle: both, track by track -/
def CFr (F : Nat) (σ0 σ : St) : Prop := (∀ f i, f ≠ 46 → f ≠ 52 → f ≠ 53 → f ≠ 68 ∨ i ≠ 33 → fl σ f i = fl σ0 f i) ∧ ∀ a j : Int, a < 11 ∨ (23 < a ∧ a < 34) ∨ 41 < a ∨ (34 ≤ a ∧ j < F) → el σ a j = el σ0 a j
def RFr (τ0 τ : St) : Prop := (∀ f i, f ≠ 84 → f ≠ 96 → f ≠ 139 → fl τ f i = fl τ0 f i) ∧ ∀ a j : Int, (9 < a ∧ a < 29) ∨ 52 < a → el τ a j = el τ0 a j
theorem CFr.rf (F : Nat) (σ : St) : CFr F σ σ := ⟨fun _ _ _ _ _ _ => rfl, fun _ _ _ => rfl⟩
theorem CFr.tr {F : Nat} {σ σ1 σ2 : St} (h : CFr F σ σ1) (k : CFr F σ1 σ2) : CFr F σ σ2 := ⟨fun f i a b c d => (k.1 f i a b c d).trans (h.1 f i a b c d), fun a j x => (k.2 a j x).trans (h.2 a j x)⟩
theorem RFr.rf (τ : St) : RFr τ τ := ⟨fun _ _ _ _ _ => rfl, fun _ _ _ => rfl⟩
theorem RFr.tr {τ τ1 τ2 : St} (h : RFr τ τ1) (k : RFr τ1 τ2) : RFr τ τ2 := ⟨fun f i a b c => (k.1 f i a b c).trans (h.1 f i a b c), fun a j x => (k.2 a j x).trans (h.2 a j x)⟩
theorem CFr.same {F : Nat} {σ0 σ : St} (h : CFr F σ0 σ) : SameC σ0 σ := ⟨fun f i hf => h.1 f i (by unfold inF at hf; omega) (by unfold inF at hf; omega) (by unfold inF at hf; omega) (by unfold inF at hf; omega), fun a j ha => h.2 a j (by omega)⟩
theorem RFr.same {τ0 τ : St} (h : RFr τ0 τ) : SameR τ0 τ := ⟨fun f hf => h.1 f 0 (by unfold inR at hf; omega) (by unfold inR at hf; omega) (by unfold inR at hf; omega), fun a j ha => h.2 a j (by unfold inA at ha; omega)⟩
section HC2
variable {N : Nat} {π : Sh}
/-- what is kept so far: the first of those in order -/
def kpt (F : Nat) (H : List Ht) : List Ht := (isoL ltH H).take (400 - F)
theorem kpt_len (F : Nat) (H : List Ht) : (kpt F H).length = min (400 - F) H.length := by
  unfold kpt
  rw [List.length_take, isoL_len]
theorem kpt_app (F : Nat) (H B : List Ht) : (isoA ltH (kpt F H) B).take (400 - F) = kpt F (H ++ B) := by
  unfold kpt
  rw [← isoA_take]
  unfold isoL
  rw [isoA_app]
theorem kpt_mem {F : Nat} {H : List Ht} {h : Ht} (k : h ∈ kpt F H) : h ∈ H := (isoL_perm ltH H).mem_iff.1 (List.mem_of_mem_take k)
theorem kpt_srt {F : Nat} {H : List Ht} (h : ∀ y ∈ H, okH y) : SrtH (kpt F H) := by
  have : SrtH (isoL ltH H) := isoH_srt (A := []) List.Pairwise.nil (fun y hy => (h y (by simpa using hy)).2.2.1.1)
  exact this.sublist (List.take_sublist _ _)
/-- the class hears a row -/
theorem c_hear {σ : St} {F : Nat} {H : List Ht} {L : List Evt} {lo hi g t c : Int} (hN : 6001 ≤ N) (hS : SHs π) (hF : F ≤ 400) (hg : 1 ≤ g ∧ g ≤ 1000000) (hlo : 0 ≤ lo ∧ lo ≤ 960) (hhi : 0 ≤ hi ∧ hi ≤ 960) (hA : At (HE σ) F (kpt F H)) (h68 : fl σ 68 33 = F + (kpt F H).length) (hL : At (CE σ) 0 L) (h46 : fl σ 46 10 = L.length) (hl : L.length ≤ 400) (sL : Srt L) (bL : ∀ e ∈ L, 0 ≤ e.1 ∧ e.1 ≤ 1000000) (bH : ∀ h ∈ H, okH h) : ∃ σ1 σ2, Rw_ceiling N (lo * g) 960 = some (-((-(lo * g)) / 960)) ∧ Rw_ceiling N (hi * g) 960 = some (-((-(hi * g)) / 960)) ∧ Es_choose N π σ 0 (-((-(lo * g)) / 960)) (-((-(hi * g)) / 960)) 1 = some σ1 ∧ fl σ1 46 10 = (L.filter (inH lo hi g)).length ∧ (∀ f j, f ≠ 46 → fl σ1 f j = fl σ f j) ∧ Kh_merge N π σ1 10 g t c F = some σ2 ∧ CFr F σ σ2 ∧ (KY σ → KY σ2) ∧ At (HE σ2) F (kpt F (H ++ (L.filter (inH lo hi g)).map (fun e => ((t, c, g, e) : Ht)))) ∧ fl σ2 68 33 = F + (kpt F (H ++ (L.filter (inH lo hi g)).map (fun e => ((t, c, g, e) : Ht)))).length := by
  have hob : ob π 10 2 := hS.ob (i := 10) (by decide) rfl
  have m1 : 0 ≤ lo * g := Int.mul_nonneg hlo.1 (by omega)
  have m2 : lo * g ≤ 960 * 1000000 := Int.mul_le_mul hlo.2 hg.2 (by omega) (by omega)
  have m3 : 0 ≤ hi * g := Int.mul_nonneg hhi.1 (by omega)
  have m4 : hi * g ≤ 960 * 1000000 := Int.mul_le_mul hhi.2 hg.2 (by omega) (by omega)
  obtain ⟨σ1, p1, p2, p3, p4, p5⟩ := c_choose (N := N) (π := π) (lo := -((-(lo * g)) / 960)) (hi := -((-(hi * g)) / 960)) (x := 1) (i := 0) (σ := σ) (l := L) hN ⟨⟨by omega, by omega⟩, ⟨by omega, by omega⟩⟩ (by decide) hL (fun e he => by have := bL e he; exact ⟨by omega, by omega⟩) (Int.le_refl _) (by omega) (by omega)
  have ef : L.filter (chs (-((-(lo * g)) / 960)) (-((-(hi * g)) / 960)) 1) = L.filter (inH lo hi g) := by
    refine List.filter_congr (fun e he => ?_)
    unfold chs inH
    rw [decide_eq_decide]
    split
    · omega
    · split <;> omega
  rw [ef] at p4 p5
  rw [Int.zero_add] at p4
  have fl' : (L.filter (inH lo hi g)).length ≤ L.length := List.length_filter_le _ _
  have kl' := kpt_len F H
  obtain ⟨σ2, q1, q2, q3, q4, q5⟩ := kh_lp (N := N) (π := π) (g := g) (t := t) (c := c) (F := F) (S := F + (kpt F H).length) hS hF hg (by omega) ⟨by omega, by omega⟩ (T := (L.filter (inH lo hi g)).length) (by omega) _ N (kpt F H) (L.filter (inH lo hi g)) [] σ1 rfl (by omega) (by omega) (by omega) (hA.mono (fun i e _ _ _ he => by
      unfold HE at he ⊢
      rw [p2.2.2.1 34 i (by omega), p2.2.2.1 35 i (by omega), p2.2.2.1 36 i (by omega), p2.2.2.1 37 i (by omega), p2.2.2.1 38 i (by omega), p2.2.2.1 39 i (by omega), p2.2.2.1 40 i (by omega), p2.2.2.1 41 i (by omega)]
      exact he)) p5 (by rw [List.take_nil]; trivial) (kpt_srt bH) (sL.sublist List.filter_sublist) (fun y hy => bH y (kpt_mem hy)) (fun e he => bL e (List.mem_filter.1 he).1) p4 (by rw [p3 68 33 (by decide)]; exact h68)
  rw [List.append_nil, kpt_app] at q5
  refine ⟨σ1, σ2, c_ceil ⟨by omega, by omega⟩ (by decide) (by decide), c_ceil ⟨by omega, by omega⟩ (by decide) (by decide), p1, p4, p3, ?_, ⟨fun f i a b c d => ?_, fun a j ha => ?_⟩, fun hy => ?_, q5, ?_⟩
  · rw [Kh_merge, p3 68 33 (by decide), h68, bnd, grd_t hob, p4, bnd, bnd, show (F : Int) + ((kpt F H).length : Int) + ((L.filter (inH lo hi g)).length : Int) - 1 = F + ((kpt F H).length + (L.filter (inH lo hi g)).length) - 1 by omega]
    exact q1
  · rw [q2 f i d, p3 f i a]
  · rw [q4 a j (by omega), p2.2.2.1 a j (by omega)]
  · have := p2.2.1 hy
    unfold KY at this ⊢
    rw [q2 52 10 (by decide), q2 53 10 (by decide)]
    exact this
  · rw [q3, kpt_len F H, kpt_len F (H ++ _), List.length_append, List.length_map]
    omega
theorem both_tracks (hB : Big N) {σ0 τ0 : St} {c : Int} (hS : SHs π) (hT : RTw PRn π σ0 τ0) (hM : RMs σ0 τ0) (hsd : fl σ0 161 9 = fl τ0 95 0 ∧ i32 (fl τ0 95 0)) (hc : fl τ0 115 0 = c) (hcb : 0 ≤ c ∧ c ≤ 100000) {F : Nat} (hF : F ≤ 400) {lo hi : Int} (hlo : 0 ≤ lo ∧ lo ≤ 960) (hhi : 0 ≤ hi ∧ hi ≤ 960) : ∀ (m n n' : Nat) (t : Int) (σ τ : St) (H : List Ht), m < n → m < n' → t + m = 8 → 0 ≤ t → CFr F σ0 σ → RFr τ0 τ → KY σ → At (HE σ) F (kpt F H) → fl σ 68 33 = F + (kpt F H).length → At (HB τ) 0 H → fl τ 139 0 = H.length → (H.length : Int) ≤ 400 * t → (∀ h ∈ H, okH h ∧ h.2.1 = c) → ∃ σ' τ' H', Cs_hearCycle_21 N π n σ c lo hi F (anyA τ0 8) H.length t = some (σ', (H'.length : Int)) ∧ r_beat_7 N n' τ lo hi t = Option.bind (r_arrange N τ') (fun r3 => r_beat_287 N N r3 0) ∧ CFr F σ0 σ' ∧ RFr τ0 τ' ∧ KY σ' ∧ At (HE σ') F (kpt F H') ∧ fl σ' 68 33 = F + (kpt F H').length ∧ At (HB τ') 0 H' ∧ fl τ' 139 0 = H'.length ∧ H'.length ≤ 3200 ∧ ∀ h ∈ H', okH h ∧ h.2.1 = c := by
  have hN := hB.n
  intro m
  induction m with
  | zero =>
    intro n n' t σ τ H hn hn' ht t0 cf rf hY hA h68 hH h139 hHl hok
    cases n with
    | zero => omega
    | succ n =>
      cases n' with
      | zero => omega
      | succ n' =>
        refine ⟨σ, τ, H, ?_, ?_, cf, rf, hY, hA, h68, hH, h139, by omega, hok⟩
        · rw [Cs_hearCycle_21, grd_t (by exact ⟨by omega, by omega⟩), if_neg (by omega)]
        · rw [r_beat_7, grd_t (by exact ⟨by omega, by omega⟩), if_neg (by omega)]
  | succ m ih =>
    intro n n' t σ τ H hn hn' ht t0 cf rf hY hA h68 hH h139 hHl hok
    cases n with
    | zero => omega
    | succ n =>
      cases n' with
      | zero => omega
      | succ n' =>
        have e51 : el σ 51 t = el σ0 51 t := cf.2 51 t (by omega)
        have e28 : el τ 28 t = el τ0 28 t := rf.2 28 t (by omega)
        obtain ⟨hp, -⟩ := hT t t0 (by omega)
        have hp' : PRn π σ τ (el σ0 51 t) (el τ0 28 t) := hp.same cf.same rf.same
        have hM' : RMs σ τ := hM.stl (fun j => cf.2 54 j (by omega)) (fun j => cf.2 55 j (by omega)) (fun j => rf.2 26 j (by omega)) (fun j => rf.2 25 j (by omega))
        have eA : ∀ m, anyA τ m = anyA τ0 m := by
          intro m
          induction m with
          | zero => rfl
          | succ m ih => rw [anyA, anyA, rf.2 25 _ (by omega), ih]
        obtain ⟨⟨mu1, mu2⟩, so1, so2⟩ := hM' t t0 (by omega)
        have i54 : i32 (el σ 54 t) := by rw [mu1]; rcases mu2 with q | q <;> rw [q] <;> decide
        have i55 : i32 (el σ 55 t) := by rw [so1]; rcases so2 with q | q <;> rw [q] <;> decide
        have iA : i32 (anyA τ0 8) := by rcases anyA_01 τ0 8 with q | q <;> rw [q] <;> decide
        -- the track is left out
        have skip : Cs_hearCycle_21 N π (n + 1) σ c lo hi F (anyA τ0 8) H.length t = Cs_hearCycle_21 N π n σ c lo hi F (anyA τ0 8) H.length (t + 1) → r_beat_7 N (n' + 1) τ lo hi t = r_beat_7 N n' τ lo hi (t + 1) → ∃ σ' τ' H', Cs_hearCycle_21 N π (n + 1) σ c lo hi F (anyA τ0 8) H.length t = some (σ', (H'.length : Int)) ∧ r_beat_7 N (n' + 1) τ lo hi t = Option.bind (r_arrange N τ') (fun r3 => r_beat_287 N N r3 0) ∧ CFr F σ0 σ' ∧ RFr τ0 τ' ∧ KY σ' ∧ At (HE σ') F (kpt F H') ∧ fl σ' 68 33 = F + (kpt F H').length ∧ At (HB τ') 0 H' ∧ fl τ' 139 0 = H'.length ∧ H'.length ≤ 3200 ∧ ∀ h ∈ H', okH h ∧ h.2.1 = c := by
          intro s1 s2
          rw [s1, s2]
          exact ih n n' (t + 1) σ τ H (by omega) (by omega) (by omega) (by omega) cf rf hY hA h68 hH h139 (by omega) hok
        by_cases ce : el σ0 51 t = -1
        · have cp : el τ0 28 t = -1 := by
            rcases hp.b with hp | ⟨hp, -⟩
            · exact hp.2
            · rw [ce] at hp
              exact absurd hp.1 (by decide)
          refine skip ?_ ?_
          · rw [Cs_hearCycle_21, grd_t (by exact ⟨by omega, by omega⟩), if_pos (by omega), grd_t (by exact ⟨by omega, by omega⟩), e51, ce, bnd, if_pos (by decide), Cs_hearCycle_154]
          · rw [r_beat_7, grd_t (by exact ⟨by omega, by omega⟩), if_pos (by omega), grd_t (by exact ⟨by omega, by omega⟩), e28, cp, grd_t (by decide), if_pos rfl, r_beat_275]
        · have hpb : ob π (el σ0 51 t) 5 ∧ 0 ≤ el τ0 28 t ∧ el τ0 28 t < 103000 ∧ fl σ 102 (el σ0 51 t) = el τ 63 (el τ0 28 t) ∧ (1 ≤ gr τ (el τ0 28 t) ∧ gr τ (el τ0 28 t) ≤ 1000000) ∧ cw τ (el τ0 28 t) ≤ 400 ∧ rc τ (el τ0 28 t) ≤ 64 := by
            rcases hp'.b with hq | ⟨q1, q2, q3, ⟨q4, q5, q6⟩, ⟨-, -, q7⟩, ⟨-, -, q8⟩, -⟩
            · exact absurd hq.1 ce
            · exact ⟨q1, q2, q3, q4, ⟨q5, q6⟩, q7, q8⟩
          obtain ⟨p1, p2, p3, p4, ⟨p5, p6⟩, p7, p8⟩ := hpb
          have r0 := p1.1
          have hsn : sndT τ t = (if el τ 26 t = 0 ∧ (anyA τ0 8 = 0 ∨ ¬ el τ 25 t = 0) then 1 else 0) := by unfold sndT; rw [eA]
          have cHead : Cs_hearCycle_21 N π (n + 1) σ c lo hi F (anyA τ0 8) H.length t = if sndT τ t = 0 then Cs_hearCycle_21 N π n σ c lo hi F (anyA τ0 8) H.length (t + 1) else Cs_hearCycle_70 N π (Cs_hearCycle_21 N π n) σ c lo hi F (anyA τ0 8) H.length t (el σ0 51 t) := by
            rw [Cs_hearCycle_21, grd_t (by exact ⟨by omega, by omega⟩), if_pos (by omega), grd_t (by exact ⟨by omega, by omega⟩), e51, bnd, if_neg (by omega), grd_t i54, mu1]
            by_cases cm : el τ 26 t = 0
            · rw [if_pos cm, grd_t iA]
              by_cases ca : anyA τ0 8 = 0
              · have e1 : sndT τ t = 1 := by rw [hsn, if_pos ⟨cm, Or.inl ca⟩]
                rw [if_pos ca, e1, if_neg (by decide)]
              · rw [if_neg ca, grd_t i55, so1]
                by_cases cs : el τ 25 t = 0
                · have e1 : sndT τ t = 0 := by rw [hsn, if_neg (fun k => k.2.elim (fun z => ca z) (fun z => z cs))]
                  rw [if_pos cs, e1, if_pos rfl, Cs_hearCycle_154]
                · have e1 : sndT τ t = 1 := by rw [hsn, if_pos ⟨cm, Or.inr cs⟩]
                  rw [if_neg cs, e1, if_neg (by decide)]
            · have e1 : sndT τ t = 0 := by rw [hsn, if_neg (fun k => cm k.1)]
              rw [if_neg cm, e1, if_pos rfl, Cs_hearCycle_154]
          have rHead : r_beat_7 N (n' + 1) τ lo hi t = if sndT τ t = 0 then r_beat_7 N n' τ lo hi (t + 1) else Option.bind (r_rowOf N τ (el τ0 28 t) c) (fun r15 => r_beat_56 N (r_beat_7 N n') N r15 lo hi t (el τ0 28 t) 0) := by
            have is : i32 (sndT τ t) := by unfold sndT; split <;> decide
            rw [r_beat_7, grd_t (by exact ⟨by omega, by omega⟩), if_pos (by omega), grd_t (by exact ⟨by omega, by omega⟩), e28, grd_t (by exact ⟨by omega, by omega⟩), if_neg (by omega), r_snd (by omega) hM' t0 (by omega), Option.bind_some, grd_t is]
            by_cases cs : sndT τ t = 0
            · rw [if_pos cs, if_pos cs, r_beat_275]
            · rw [if_neg cs, if_neg cs, e28, bnd, rf.1 115 0 (by decide) (by decide) (by decide), hc, grd_t (by exact ⟨by omega, by omega⟩)]
          by_cases cs : sndT τ t = 0
          · rw [if_pos cs] at cHead rHead
            exact skip cHead rHead
          · rw [if_neg cs] at cHead rHead
            rw [cHead, rHead]
            obtain ⟨L, gL, ⟨σ1, a1, a2, a3, a4⟩, ⟨τ1, b1, b2, b3, b4, b5⟩⟩ := both_row hB hS hp' ce hY ⟨by rw [cf.1 161 9 (by decide) (by decide) (by decide) (by decide), rf.1 95 0 (by decide) (by decide) (by decide)]; exact hsd.1, by rw [rf.1 95 0 (by decide) (by decide) (by decide)]; exact hsd.2⟩ (show -1000 ≤ c ∧ c ≤ 100000 by omega)
            have gl := gL.1
            have bL : ∀ e ∈ L, 0 ≤ e.1 ∧ e.1 ≤ 1000000 := fun e he => by
              obtain ⟨⟨w1, w2⟩, -⟩ := gL.2.1 e he
              exact ⟨w1, by omega⟩
            have cf1 : CFr F σ σ1 := ⟨fun f i x y z w => by rw [a2.1 f i x y z, fl_sfn _ _ _ _ x], fun a j ha => by rw [a2.2.2.1 a j (by omega), el_sf]⟩
            have g102 : fl σ1 102 (el σ0 51 t) = gr τ (el τ0 28 t) := by rw [cf1.1 102 _ (by decide) (by decide) (by decide) (by omega)]; exact p4
            have kY1 : KY σ1 := a2.2.1 (by
              unfold KY
              rw [fl_sfn _ _ _ _ (by decide), fl_sfn _ _ _ _ (by decide)]
              exact hY)
            obtain ⟨σ2, σ3, u1, u2, u3, u4, u4', u5, u6, u7, u8, u9⟩ := c_hear (N := N) (π := π) (σ := σ1) (F := F) (H := H) (L := L) (lo := lo) (hi := hi) (g := gr τ (el τ0 28 t)) (t := t) (c := c) (by omega) hS hF ⟨p5, p6⟩ hlo hhi (hA.mono (fun i e _ _ _ he => by
                unfold HE at he ⊢
                rw [a2.2.2.1 34 i (by omega), a2.2.2.1 35 i (by omega), a2.2.2.1 36 i (by omega), a2.2.2.1 37 i (by omega), a2.2.2.1 38 i (by omega), a2.2.2.1 39 i (by omega), a2.2.2.1 40 i (by omega), a2.2.2.1 41 i (by omega)]
                exact he)) (by rw [a2.1 68 33 (by decide) (by decide) (by decide), fl_sfn _ _ _ _ (by decide)]; exact h68) a4 a3 (by omega) gL.2.2 bL (fun h hh => (hok h hh).1)
            have rf1 : RFr τ τ1 := ⟨fun f i x y z => b2 f i x y, fun a j ha => b3 a j (by omega)⟩
            obtain ⟨τ2, v1, v2, v3, v4, v5⟩ := r_beats_lp (N := N) (rec7 := r_beat_7 N n') (lo := lo) (hi := hi) (t := t) (p := el τ0 28 t) (c := c) (g := gr τ (el τ0 28 t)) hlo hhi ⟨p2, p3⟩ ⟨p5, p6⟩ ⟨by omega, by omega⟩ L N τ1 H 0 (by omega) b5 (hH.mono (fun i e _ _ _ he => HB.fr (fun a x y => b3 a i (by omega)) he)) (by rw [b2 139 0 (by decide) (by decide)]; exact h139) (by omega) (Int.le_refl _) (by omega) (by omega) (by rw [b2 115 0 (by decide) (by decide), rf.1 115 0 (by decide) (by decide) (by decide)]; exact hc) (b3 63 _ (by omega)) bL
            have fle : (L.filter (inH lo hi (gr τ (el τ0 28 t)))).length ≤ L.length := List.length_filter_le _ _
            have hl3 : ((H ++ (L.filter (inH lo hi (gr τ (el τ0 28 t)))).map (fun e => ((t, c, gr τ (el τ0 28 t), e) : Ht))).length : Int) = H.length + (L.filter (inH lo hi (gr τ (el τ0 28 t)))).length := by
              rw [List.length_append, List.length_map]; omega
            obtain ⟨σ', τ', H', w1, w2, w3⟩ := ih n n' (t + 1) σ3 τ2 (H ++ (L.filter (inH lo hi (gr τ (el τ0 28 t)))).map (fun e => ((t, c, gr τ (el τ0 28 t), e) : Ht))) (by omega) (by omega) (by omega) (by omega) ((cf.tr cf1).tr u6) (rf.tr (rf1.tr ⟨fun f i x y z => v2 f i z, fun a j ha => v3 a j (by omega)⟩)) (u7 kY1) u8 u9 v5 v4 (by omega) (fun h hh => by
                rcases List.mem_append.1 hh with hh | hh
                · exact hok h hh
                · obtain ⟨e, he, rfl⟩ := List.mem_map.1 hh
                  obtain ⟨⟨x1, x2⟩, ⟨x3, x4⟩, x5⟩ := gL.2.1 e (List.mem_filter.1 he).1
                  have rb : rc τ (el τ0 28 t) * gr τ (el τ0 28 t) ≤ 64 * 1000000 := Int.mul_le_mul p8 p6 (by omega) (by omega)
                  exact ⟨⟨⟨t0, by show t < 8; omega⟩, ⟨by show (-2147483648 : Int) ≤ c; omega, by show c < 2147483648; omega⟩, ⟨p5, p6⟩, ⟨x1, x2⟩, ⟨x3, by show e.2.1 ≤ 64000000; omega⟩, x5⟩, rfl⟩)
            refine ⟨σ', τ', H', ?_, ?_, w3⟩
            · rw [Cs_hearCycle_70, grd_t (by exact ⟨by omega, by omega⟩), a1, Option.bind_some, grd_t (by exact ⟨by omega, by omega⟩), grd_t p1, g102, u1, Option.bind_some, grd_t (by exact ⟨by omega, by omega⟩), u2, Option.bind_some, u3, Option.bind_some, bnd, u4' 102 _ (by decide), g102, u5, Option.bind_some, Cs_hearCycle_154, u4, ← hl3]
              exact w1
            · rw [b1, Option.bind_some, v1]
              exact w2
end HC2
