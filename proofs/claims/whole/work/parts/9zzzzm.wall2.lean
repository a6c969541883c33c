/-! what functions want: numbers, then the rest -/
section WG9
variable {N : Nat} {b : Bse} {Xo : Int → Prop} {dl : List (Int × Int)} {rA rF : Sh → St → Option (Sh × St × Int)}
/-- reading what a function wants met a fault -/
def WFt (b : Bse) (Xo : Int → Prop) (d n pc : Int) (L0 : List Stq) (Kn0 : List Int) (π0 : Sh) (σ0 τ0 : St) (π : Sh) (σ τ : St) (T : Nat) : Prop := ob π pc 6 ∧ fl σ 182 1 ≠ 0 ∧ i32 (fl σ 182 1) ∧ EFt (bX b) (bY b) π0 σ0 π σ ∧ RDr n d τ0 τ ∧ EXf b Xo L0 Kn0 0 π0 σ0 τ0 π σ τ T
set_option maxHeartbeats 2000000 in
theorem wn_one {f K Kd us d n pc place op e0 a a2 c c2 w i : Int} {r : List Int} {L0 : List Stq} {Kn0 : List Int} {π0 π : Sh} {σ0 τ0 σ τp τ : St} {T m : Nat} (hN : 30000001 ≤ N) (hc : CTX b dl) (h0 : XEs b Xo π0 σ0 τ0 L0 Kn0) (hB0 : PRE τ0 L0 Kn0) (hop : fl τ0 13 0 = op) (hd : 0 ≤ d ∧ d < 500) (hf : 0 ≤ f ∧ f ≤ 20) (h : WST N b dl Xo f f K Kd us d n pc place op e0 L0 Kn0 π0 σ0 τ0 π σ τ a a2 c c2 [] [] T) (ht : TRN N τp τ d n) (h71 : el τ 71 (d + 1) = nuw (w :: r)) (hr : ∀ x ∈ r, 1 ≤ x ∧ x ≤ 4) (hl : r.length ≤ 3) (hw : (w = 1 ∧ chW (f * 4 + i) = 65 ∧ (f ≤ 3 ∨ f = 7 ∨ f = 19 ∨ f = 20)) ∨ (w = 2 ∧ chW (f * 4 + i) = 78 ∧ (f = 5 ∨ f = 6 ∨ f = 9 ∨ f = 10 ∨ f = 11 ∨ f = 12 ∨ f = 13 ∨ f = 16 ∨ f = 17 ∨ f = 18))) (hn : (i = 0 ∧ a = 0 ∧ a2 = 0 ∧ c = 0 ∧ c2 = 0) ∨ (i = 1 ∧ NV1 f a a2 ∧ c = 0 ∧ c2 = 0 ∧ (f = 6 ∨ f = 19 ∨ f = 20))) : ∃ σ' τ', Rd_wants_9 N rA rF (m + 1) π σ pc (f * 4) i = Rd_wants_9 N rA rF m π σ' pc (f * 4) (i + 1) ∧ RLp N 1 τp τ' ∧ (WFt b Xo d n pc L0 Kn0 π0 σ0 τ0 π σ' τ' (T + 1) ∨ ∃ a' a2' c' c2', (i = 0 → NV1 f a' a2' ∧ c' = 0 ∧ c2' = 0) ∧ (i = 1 → NVa f a' a2' c' c2') ∧ WST N b dl Xo f f K Kd us d n pc place op (e0 - 1) L0 Kn0 π0 σ0 τ0 π σ' τ' a' a2' c' c2' [] [] (T + 1) ∧ TRN N τ' τ' d n ∧ el τ' 71 (d + 1) = nuw r) := by
  have hi3 : 0 ≤ i ∧ i < 3 := by
    rcases hn with q | q
    · exact ⟨by rw [q.1]; decide, by rw [q.1]; decide⟩
    · exact ⟨by rw [q.1]; decide, by rw [q.1]; decide⟩
  have hv80 : 0 ≤ f * 4 ∧ f * 4 ≤ 80 := ⟨by omega, by omega⟩
  obtain ⟨a1, a2', a3, a4, a5, a6, a7, a8, a9, a10, a11, a12, a13, a14, a15, b1, b2, b3, b4, b5, b6, b7, b8⟩ := id h
  have nb := h0.2.2.2.2.2.2.1.1.1
  have n56 := h0.1.1
  have v16 := h0.2.2.2.2.2.2.2.2.1
  have bv : 0 ≤ bV b := by obtain ⟨-, -, -, -, -, -, -, -, -, q⟩ := hc; exact q
  have l1 := a1.2.1.lf
  have f182 := a1.2.2.1.1
  obtain ⟨τ1, hτ1⟩ : ∃ τ1, τ1 = se τ 71 (d + 1) (nuw r) := ⟨_, rfl⟩
  have x1 : XEs b (fun x => Xo x ∨ x = pc + 1) π σ τ1 L0 Kn0 := by
    have q := a1.rt hc (τ' := τ1) (by rw [hτ1]; exact (RDr.rf (bV b) 0 τ).sp 71 (d + 1) (nuw r) (by omega) (by omega)) (Int.le_refl _) (Int.le_refl _) (by rw [hτ1, fl_se]; exact a1.2.2.2.2.2.2.2.2.1) (fun g _ => by rw [hτ1, fl_se])
    rw [show egs [] = ([] : List Stq) from rfl, List.append_nil, List.append_nil] at q
    exact q
  have n327 : inb n 32768 ∧ bV b ≤ n := by
    have r16 := x1.2.2.2.2.2.2.2.2.1
    have z := a9
    unfold PRE at hB0
    exact ⟨⟨by omega, by omega⟩, by omega⟩
  obtain ⟨⟨y1, y2, y3, y4, y5, y6⟩, y7⟩ := a10
  obtain ⟨p1, p2, p3, p4, p5, p6, p7⟩ := a2'.1
  have e1 : ∀ g : Int, 72 ≤ g → el τ1 g n = el τ g n := fun g hg => by rw [hτ1, el_sen _ _ _ _ (by omega)]
  have pcb : nn b.1 ≤ pc ∧ 56 ≤ pc := by omega
  have e92 : el τ1 92 n = f := by rw [e1 92 (by omega)]; exact y2
  have e91 : el τ1 91 n = a ∧ el τ1 90 n = a2 := ⟨by rw [e1 91 (by omega)]; exact y3, by rw [e1 90 (by omega)]; exact y4⟩
  obtain ⟨x2, hx2⟩ : ∃ x2 : Int, x2 = if i = 0 then 1 else 0 := ⟨_, rfl⟩
  have fin : ∀ (σ' τ' : St), fl τ' 41 0 = d + 2 → True := fun _ _ _ => trivial
  rcases hw with ⟨w1, w2, w3⟩ | ⟨w1, w2, w3⟩
  · -- a fraction
    have hb := fr_both (N := N) (x2 := x2) hN hc x1 p1 pcb ⟨p2, ⟨by omega, by omega⟩⟩ ⟨p4, p5⟩ n327 e92 e91 (by
      rcases hn with q | ⟨q, q2, -⟩
      · omega
      · have := (q2.1 w3); omega) (by
      rcases hn with q | ⟨q, q2, q3⟩
      · left; rw [if_pos q.1] at hx2; omega
      · right
        have := (q2.1 w3)
        rw [if_neg (by omega)] at hx2
        exact ⟨hx2, by omega, by omega⟩) (d := d)
    have hb' := hb
    rw [hτ1] at hb'
    obtain ⟨σ', τ', q1, q2, q3⟩ := ws_num (w := w) (x2 := x2) (g1 := if x2 = 1 then 91 else 89) (F1 := if x2 = 1 then 122 else 124) (F2 := if x2 = 1 then 123 else 125) hN hc h0 hop hd h ht h71 (Or.inl w1) hr hl (by
      by_cases q : x2 = 1
      · left; rw [if_pos q, if_pos q, if_pos q]; exact ⟨rfl, rfl, rfl⟩
      · right; rw [if_neg q, if_neg q, if_neg q]; exact ⟨rfl, rfl, rfl⟩) (by rw [if_pos w1]; exact hb')
    have cl : Rd_wants_9 N rA rF (m + 1) π σ pc (f * 4) i = Rd_wants_9 N rA rF m π σ' pc (f * 4) (i + 1) := cw_num (w := w) hi3 hv80 f182 (Or.inl ⟨w1, w2⟩) (by rw [if_pos w1, ← hx2]; exact q1)
    refine ⟨σ', τ', cl, q2, ?_⟩
    rcases q3 with q | ⟨u, v, ok, q5, q6⟩
    · exact Or.inl ⟨p1, q⟩
    · right
      have tr : TRN N τ' τ' d n := TRN.same hd q5.2.2.2.2.2.1.1 q5.1.2.2.1.2 q5.2.2.2.2.2.1.2.1 q5.2.2.2.2.2.1.2.2.1 q5.2.2.2.2.2.1.2.2.2
      obtain ⟨o1, o2, o3, o4, o5, o6⟩ := ok
      rcases hn with ⟨i0, z1, z2, z3, z4⟩ | ⟨i1, z1, z2, z3, z4⟩
      · rw [if_pos i0] at hx2
        have e9 : (if x2 = 1 then (91 : Int) else 89) = 91 := if_pos hx2
        rw [e9, if_pos rfl, if_pos rfl, if_pos rfl, if_pos rfl] at q5
        refine ⟨u, v, c, c2, fun _ => ⟨⟨fun _ => ⟨o1, o2, o3, o4, o5⟩, fun q => by omega, fun q => by omega, fun q => by omega⟩, z3, z4⟩, fun q => by omega, q5, tr, q6⟩
      · rw [if_neg (by omega)] at hx2
        have e9 : (if x2 = 1 then (91 : Int) else 89) = 89 := if_neg (by omega)
        rw [e9, if_neg (by decide), if_neg (by decide), if_neg (by decide), if_neg (by decide)] at q5
        exact ⟨a, a2, u, v, fun q => by omega, fun _ => ⟨z1, fun q => by omega, fun q => by omega, fun q => ⟨o1, o2, o5 q, o6 hx2⟩⟩, q5, tr, q6⟩
  · -- a count
    have hb := cn_both (N := N) (x2 := x2) hN hc x1 p1 pcb ⟨p2, ⟨by omega, by omega⟩⟩ ⟨p4, p5⟩ n327 e92 e91 (by
      rcases hn with q | ⟨q, q2, q3, q4, q5⟩
      · exact ⟨by omega, by omega⟩
      · have := q2.2.1 (by omega); exact ⟨by omega, by omega⟩) (by
      rcases hn with q | ⟨q, q2, q3, q4, q5⟩
      · left; rw [if_pos q.1] at hx2; omega
      · right
        have := q2.2.1 (by omega)
        rw [if_neg (by omega)] at hx2
        exact ⟨hx2, by omega, by omega⟩)
    have hb' := hb
    rw [hτ1] at hb'
    obtain ⟨σ', τ', q1, q2, q3⟩ := ws_num (w := w) (x2 := x2) hN hc h0 hop hd h ht h71 (Or.inr w1) hr hl (Or.inl ⟨rfl, rfl, rfl⟩) (by rw [if_neg (by omega)]; exact hb')
    have cl : Rd_wants_9 N rA rF (m + 1) π σ pc (f * 4) i = Rd_wants_9 N rA rF m π σ' pc (f * 4) (i + 1) := cw_num (w := w) hi3 hv80 f182 (Or.inr ⟨w1, w2⟩) (by rw [if_neg (by omega), ← hx2]; exact q1)
    refine ⟨σ', τ', cl, q2, ?_⟩
    rcases q3 with q | ⟨u, v, ok, q5, q6⟩
    · exact Or.inl ⟨p1, q⟩
    · right
      have tr : TRN N τ' τ' d n := TRN.same hd q5.2.2.2.2.2.1.1 q5.1.2.2.1.2 q5.2.2.2.2.2.1.2.1 q5.2.2.2.2.2.1.2.2.1 q5.2.2.2.2.2.1.2.2.2
      rw [if_pos rfl, if_pos rfl, if_pos rfl, if_pos rfl] at q5
      rcases hn with ⟨i0, z1, z2, z3, z4⟩ | ⟨i1, z1, z2, z3, z4⟩
      · rw [if_pos i0] at hx2
        obtain ⟨o1, o2, o3, o4⟩ := ok.1 hx2
        refine ⟨u, v, c, c2, fun _ => ⟨⟨fun q => by omega, fun q => ?_, fun q => ?_, fun q => ?_⟩, z3, z4⟩, fun q => by omega, q5, tr, q6⟩
        · rw [if_neg (by omega)] at o3; exact ⟨by omega, by omega, by omega⟩
        · rw [if_neg (by omega)] at o3; exact ⟨by omega, by omega, by omega⟩
        · rw [if_pos (by omega)] at o3; exact ⟨by omega, by omega, by omega⟩
      · rw [if_neg (by omega)] at hx2
        obtain ⟨o1, o2, o3⟩ := ok.2 hx2
        have f6 : f = 6 := by omega
        refine ⟨u, v, c, c2, fun q => by omega, fun _ => ⟨⟨fun q => by omega, fun q => ?_, fun q => by omega, fun q => by omega⟩, fun q => by omega, fun _ => ⟨o2, o3⟩, fun q => by omega⟩, q5, tr, q6⟩
        have := z1.2.1 (by omega)
        exact ⟨by omega, by omega, Or.inl f6⟩
end WG9
