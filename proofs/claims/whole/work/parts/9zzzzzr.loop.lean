/-! all lines of a tape -/
section RL9
variable {N : Nat}
/-- both go on to the next token -/
theorem RS.mv {π0 π : Sh} {σ0 τ0 σ τ σ' τ' : St} {cA wA : Int} {dl : List (Int × Int)} (h : RS N π0 σ0 τ0 cA wA dl π σ τ) (h56 : 56 ≤ nn π0) (hC : ∀ (f : Nat) (i : Int), ¬ (i = 1 ∧ 185 ≤ f ∧ f ≤ 190) → ¬ (i = 44 ∧ f = 144) → fl σ' f i = fl σ f i) (hE : ∀ a j : Int, el σ' a j = el σ a j) (hR : SFr τ τ') (t' : TKr σ' τ') (p : fl τ 4 0 + 1 ≤ fl τ' 4 0) (k0 : fl τ 3 0 ≠ 0) : RS N π0 σ0 τ0 cA wA dl π σ' τ' := by
  obtain ⟨⟨s1, s2, s3, s4⟩, ⟨t, f1, f2, f184⟩, ⟨c1, c2, c3, c4⟩, ⟨hL, h36, hA, hD⟩, hF, hSv, ⟨n1, n2, n3⟩, hNd, ⟨rm1, rm2⟩, pa1, pa2⟩ := h
  have n3' := n3 k0
  have r : ∀ f : Nat, ¬ (3 ≤ f ∧ f ≤ 10) → fl τ' f 0 = fl τ f 0 := fun f hf => hR.1 f 0 hf
  have g28 := s4.2.2.1
  have kc : KCf π σ π σ' := ⟨ext.rf _, fun f i _ hx => hC f i (by unfold xC at hx; omega) (by unfold xC at hx; omega), fun a j _ _ _ _ => hE a j, Or.inl (hC 1 43 (by omega) (by omega))⟩
  have hx : HX π σ π σ' := HX.all (ext.rf _) (fun f i hf _ => hC f i (by unfold inF at hf; omega) (by unfold inF at hf; omega)) (fun a j _ _ => hE a j)
  have gr : GRW π σ τ π σ' τ' := ⟨hx, TX.eq (r 48 (by omega)) (r 61 (by omega)) (fun a j _ _ => hR.2 a j), ⟨by rw [r 28 (by omega)]; exact Int.le_refl _, by rw [r 28 (by omega)]; exact g28.2⟩, by rw [r 16 (by omega)]; exact Int.le_refl _, fun a v _ _ _ => hR.2 a v, fun a v _ _ _ => hR.2 a v⟩
  have lfl : lf τ' ≤ lf τ := by unfold lf; rw [r 1 (by omega)]; omega
  have cpe : cpc π σ' 43 = cpc π σ 43 := by unfold cpc; rw [hC 1 43 (by omega) (by omega)]
  have s3' := s3.sc hR
  refine ⟨⟨s1, s2.tr kc, s3', s4.tr gr⟩, ⟨t', by rw [hC 182 1 (by omega) (by omega)]; exact f1, by rw [r 11 (by omega)]; exact f2, by rw [hC 184 1 (by omega) (by omega)]; exact f184⟩, by rw [hC 87 3 (by omega) (by omega), hC 88 3 (by omega) (by omega), r 64 (by omega)]; exact ⟨c1, c2, c3, c4⟩, ⟨hL.keep (ext.rf _) ⟨hC 1 43 (by omega) (by omega), hC 2 43 (by omega) (by omega)⟩ (fun _ j => hE _ j), by rw [r 36 (by omega)]; exact h36, hA.mono (fun i e _ _ _ hq => by rw [hR.2]; exact hq), fun e he => (hD e he).keep gr⟩, ⟨?_, ?_, fun f x y => by rw [hR.2]; exact hF.2.2 f x y⟩, by rw [r 149 (by omega), r 150 (by omega), r 151 (by omega), r 152 (by omega)]; exact hSv, ⟨by rw [r 28 (by omega)]; exact n1, by rw [r 28 (by omega)]; omega, fun _ => by rw [r 28 (by omega)]; omega⟩, by rw [r 16 (by omega)]; omega, ⟨by rw [r 64 (by omega)]; omega, by rw [cpe, r 64 (by omega), r 61 (by omega)]; omega⟩, by rw [r 48 (by omega), r 64 (by omega)]; exact pa1, by rw [r 61 (by omega), r 64 (by omega)]; exact pa2⟩
  · have gg := hF.1
    unfold FNc at gg ⊢
    exact gg.mono (fun i e _ _ _ hq => by rw [hE]; exact hq)
  · have gg := hF.2.1
    unfold FNr at gg ⊢
    exact gg.mono (fun i e _ _ _ hq => by rw [hR.2]; exact hq)
/-- how the reading of lines ends -/
def RDe (N : Nat) (π0 : Sh) (σ0 τ0 : St) (cA wA : Int) (π : Sh) (σ τ : St) : Prop := (∃ dl, RS N π0 σ0 τ0 cA wA dl π σ τ) ∨ (FTS π0 σ0 τ0 (cA + 1620) (wA + fl τ0 61 0 + 14637) π σ τ ∧ 1 ≤ fl τ0 1 0)
theorem read_lp {π0 : Sh} {σ0 τ0 : St} {cA wA : Int} (hN : 30000001 ≤ N) (hB : BSc τ0) (h42 : fl σ0 1 42 < nn π0) (h56 : 56 ≤ nn π0) : ∀ (m n n' : Nat) (π : Sh) (σ τ : St) (dl : List (Int × Int)) (x2 : Int), lf τ ≤ m → 2 * m + 4 < n → 2 * m + 4 < n' → 0 ≤ x2 → x2 ≤ fl τ 4 0 → RS N π0 σ0 τ0 cA wA dl π σ τ → ∃ π' σ' τ', Cs_read_14 N n π σ (if fl σ 185 1 = 6 then 0 else 1) x2 = Cs_read_61 N π' σ' ∧ r_read_4 N n' τ = r_read_40 N τ' ∧ RDe N π0 σ0 τ0 cA wA π' σ' τ' := by
  intro m
  induction m with
  | zero =>
    intro n n' π σ τ dl x2 h1 h2 h3 h4 h5 h
    have := h.2.1.1.lf
    omega
  | succ m ih =>
    intro n n' π σ τ dl x2 h1 h2 h3 h4 h5 h
    obtain ⟨n, rfl⟩ : ∃ q, n = q + 2 := ⟨n - 2, by omega⟩
    obtain ⟨n', rfl⟩ : ∃ q, n' = q + 2 := ⟨n' - 2, by omega⟩
    have h' := h
    obtain ⟨⟨s1, s2, s3, s4⟩, ⟨t, f1, f2, f184⟩, -⟩ := h
    have kd := t.kd
    have sz2 := t.1.2.2.1
    have t4 := t.2.2.2.1
    have sz : fl τ 1 0 = fl τ0 1 0 := s3.1 1 0 (by unfold xR; omega)
    have ix2 : i32 x2 := ⟨by omega, by omega⟩
    by_cases k6 : fl σ 185 1 = 6
    · have k0 : fl τ 3 0 = 0 := kd.2.2.2.2.2.2.2.1 k6
      refine ⟨π, σ, τ, ?_, ?_, Or.inl ⟨dl, h'⟩⟩
      · rw [if_pos k6, Cs_read_14, grd_t ix2, if_neg (by omega), grd_t (by decide), if_pos rfl]
      · rw [r_read_4, f2, grd_t (by decide), if_pos rfl, k0, grd_t (by decide), if_pos rfl]
    have k0 : fl τ 3 0 ≠ 0 := fun q => k6 (kd.2.2.2.2.2.2.2.2 q)
    have t4' : fl τ 4 0 < fl τ 1 0 := by
      rcases t.2.2.2.2.2 with q | q | ⟨q1, q2, e, q3, q4, q5, -⟩ | q | q | q | q | ⟨b, q1, q2, q3, q4, q5, q6⟩ <;> omega
    -- one more line
    have cstep : ∀ π1 σ1 r π2 σ2 v, Rd_line N π σ = some (π1, σ1, r) → Cs_takeLine N π1 σ1 r = some (π2, σ2, v) → Cs_read_14 N (n + 2) π σ 1 x2 = Cs_read_36 N (Cs_read_14 N (n + 1)) π2 σ2 x2 v := fun π1 σ1 r π2 σ2 v e1 e2 => by
      rw [Cs_read_14, grd_t ix2, if_neg (by omega), grd_t (by decide), if_neg (by decide), e1, Option.bind_some]
      simp only
      rw [Cs_read_33, e2, Option.bind_some]
    have cgo : ∀ π2 σ2, i32 (fl σ2 185 1) → Cs_read_36 N (Cs_read_14 N (n + 1)) π2 σ2 x2 1 = Cs_read_14 N (n + 1) π2 σ2 (if fl σ2 185 1 = 6 then 0 else 1) (x2 + 1) := fun π2 σ2 hi => by
      rw [Cs_read_36, grd_t (by decide), if_neg (by decide), Rd_hasMore, grd_t hi]
      by_cases q : fl σ2 185 1 = 6
      · rw [if_pos q, if_pos q, Option.bind_some]
        simp only
        rw [grd_t (by decide), if_pos trivial]; rfl
      · rw [if_neg q, if_neg q, Option.bind_some]
        simp only
        rw [grd_t (by decide), if_neg (by decide)]; rfl
    rw [if_neg k6]
    by_cases k10 : fl σ 185 1 = 10
    · -- an empty line
      have k1 : fl τ 3 0 = 1 := kd.2.2.2.2.2.2.1.1 k10
      have t' : TKr (sf σ 144 44 (-1)) τ := t.cg (fun f hf => fl_sfn _ _ _ _ (by omega)) (fun _ => rfl) (fun _ _ => rfl) (fun _ => rfl)
      have k10' : fl (sf σ 144 44 (-1)) 185 1 = 10 := by rw [fl_sfn _ _ _ _ (by decide)]; exact k10
      obtain ⟨σ1, τ1, z1, z2, z3, z4, z5, z6, z7, -⟩ := both_advance (N := N) (π := π) (by omega) t' (by omega)
      have p1 : fl τ 4 0 + 1 ≤ fl τ1 4 0 := by omega
      have hC : ∀ (f : Nat) (i : Int), ¬ (i = 1 ∧ 185 ≤ f ∧ f ≤ 190) → ¬ (i = 44 ∧ f = 144) → fl σ1 f i = fl σ f i := fun f i x y => by rw [z3.1 f i x, fl_sf, if_neg (by omega)]
      have rs1 := h'.mv h56 hC (fun a j => by rw [z3.2]; rfl) z4 z5 p1 k0
      have lf1 : lf τ1 + 1 ≤ lf τ := by unfold lf; rw [z4.1 1 0 (by omega)]; omega
      obtain ⟨π', σ', τ', q1, q2, q3⟩ := ih (n + 1) (n' + 1) π σ1 τ1 dl (x2 + 1) (by omega) (by omega) (by omega) (by omega) (by omega) rs1
      refine ⟨π', σ', τ', ?_, ?_, q3⟩
      · have f144 : fl σ1 144 44 = -1 := by rw [z3.1 144 44 (by omega), fl_sfs]
        have e182 : fl σ1 182 1 = 0 := by rw [hC 182 1 (by omega) (by omega)]; exact f1
        rw [cstep π σ1 (-1) π σ1 1 ?_ ?_, cgo π σ1 z5.kd.1]
        · exact q1
        · rw [Rd_line, grd_t kd.1, if_pos k10, Rd_line_84, fl_sfn _ _ _ _ (by decide), f1, grd_t (by decide), if_pos rfl, z1, Option.bind_some, f144]
        · rw [Cs_takeLine, if_pos (by decide), e182, grd_t (by decide), if_pos rfl]
      · rw [r_read_4, f2, grd_t (by decide), if_pos rfl, k1, grd_t (by decide), if_neg (by decide), if_pos rfl, z2, Option.bind_some]
        exact q2
    · -- a definition
      have k1 : fl τ 3 0 ≠ 1 := fun q => k10 (kd.2.2.2.2.2.2.1.2 q)
      obtain ⟨π1, σ1, r, π2, σ2, v, τ2, e1, e2, e3, alt⟩ := line_all hN hB h42 h56 h' k10 k6
      have rstep : r_read_4 N (n' + 2) τ = r_read_4 N (n' + 1) τ2 := by
        rw [r_read_4, f2, grd_t (by decide), if_pos rfl, grd_t (by exact ⟨by omega, by omega⟩), if_neg k0, if_neg k1, e3, Option.bind_some]
      rw [cstep π1 σ1 r π2 σ2 v e1 e2, rstep]
      rcases alt with ⟨rfl, ft⟩ | ⟨rfl, dl', g0, g⟩
      · refine ⟨π2, σ2, τ2, ?_, ?_, Or.inr ⟨ft, by omega⟩⟩
        · rw [Cs_read_36, grd_t (by decide), if_pos rfl, Cs_read_53, Cs_read_54, Cs_read_14, grd_t (by exact ⟨by omega, by omega⟩)]
          by_cases q : (2000 : Int) < x2 + 1
          · rw [if_pos q]
          · rw [if_neg q, grd_t (by decide), if_pos rfl]
        · have := ft.2.1
          rw [r_read_4, grd_t (by exact ⟨by omega, by omega⟩), if_neg (by omega)]
      · rcases g with ⟨g1, τ3, g2, g3, g4⟩ | ⟨g1, g3, g4⟩
        · have e31 : fl τ3 1 0 = fl τ0 1 0 := g3.1.2.2.1.1 1 0 (by unfold xR; omega)
          have lf1 : lf τ3 + 1 ≤ lf τ := by unfold lf; rw [e31, sz]; omega
          obtain ⟨π', σ', τ', q1, q2, q3⟩ := ih (n + 1) n' π2 σ2 τ3 dl' (x2 + 1) (by omega) (by omega) (by omega) (by omega) (by omega) g3
          refine ⟨π', σ', τ', ?_, ?_, q3⟩
          · rw [cgo π2 σ2 g3.2.1.1.kd.1]; exact q1
          · rw [r_read_4, g0, grd_t (by decide), if_pos rfl, g1, grd_t (by decide), if_neg (by decide), if_pos rfl, g2, Option.bind_some]
            exact q2
        · have e31 : fl τ2 1 0 = fl τ0 1 0 := g3.1.2.2.1.1 1 0 (by unfold xR; omega)
          have lf1 : lf τ2 + 1 ≤ lf τ := by unfold lf; rw [e31, sz]; omega
          obtain ⟨π', σ', τ', q1, q2, q3⟩ := ih (n + 1) (n' + 1) π2 σ2 τ2 dl' (x2 + 1) (by omega) (by omega) (by omega) (by omega) (by omega) g3
          exact ⟨π', σ', τ', by rw [cgo π2 σ2 g3.2.1.1.kd.1]; exact q1, q2, q3⟩
end RL9
