/-! names before what they are applied to: functions -/
section AN9
variable {N : Nat} {b : Bse} {Xo : Int → Prop} {dl : List (Int × Int)}
theorem APt.mono {D P vlo lo hi w z A B w' z' A' B' wk c s0 s1 ex : Int} {m k m' k' : Nat} {Uo : Stq → Prop} {av : List (Int × Int)} {π : Sh} {σ τ : St} {run : Sh → St → Int → Option (Sh × St × Int)} (h : APt N D P vlo lo hi m k w z A B Uo av wk c s0 s1 ex π σ τ run) (h1 : m ≤ m' ∧ k ≤ k') (h2 : w ≤ w' ∧ z ≤ z') (h3 : A ≤ A' ∧ B ≤ B') : APt N D P vlo lo hi m' k' w' z' A' B' Uo av wk c s0 s1 ex π σ τ run := by
  intro Xo π' σ' τ' L Kn oi a1 a2 a3 a4 a5
  obtain ⟨π'', σ'', seg, o, r1, r2, r3, r4, r5⟩ := h Xo π' σ' τ' L Kn oi a1 a2 a3 (by omega) a5
  exact ⟨π'', σ'', seg, o, r1, r2.mono h3.1 h3.2, by omega, r4, fun x yy hx => (r5 x yy hx).mono h1.2 (Int.le_refl _) (Int.le_refl _) (fun _ _ _ _ _ _ => rfl) (List.prefix_refl _) (by omega) (by omega) (Int.le_refl _) (Int.le_refl _) (fun _ hx => hx) (fun _ hx => hx)⟩
theorem apt_one {D P vlo lo hi n s0 s1 ex pc f place a b c d : Int} {rA : Sh → St → Int → Int → Int → Option (Sh × St × Int)} {Uo : Stq → Prop} {av : List (Int × Int)} {π : Sh} {σ τ : St} (hN : 30000001 ≤ N) (hp : PCf π σ pc f place a b c d) (hs : s0 ≤ pc ∧ pc < s1) (hf : isOne f) (hn : ND lo hi n) (hF : FN τ n place f a b c d) (hv : IVf f a b c d) : APt N D P vlo lo hi 1 1 1 1 6 60 Uo av 12 n s0 s1 ex π σ τ (fun π σ p => Pc_apply N rA π σ pc D p) := by
  intro Xo π' σ' τ' L Kn oi h1 h2 h3 h4 h5
  have hp' : PCf π' σ' pc f place a b c d := hp.cg h1.1 (fun g a b => h1.2.1 g pc (by omega) (by omega) hs.1 hs.2 (by omega))
  obtain ⟨π'', σ'', q1, q2⟩ := ap_one_ok (N := N) (rA := rA) (p := oi) hp' hf h2 h3 (by omega)
  refine ⟨π'', σ'', _, _, q1, q2, by simp, fun y hy h9 => ?_, fun x yy hx => ?_⟩
  · have ey : y = ((fK f a b c d).1, place, (fK f a b c d).2.1, (fK f a b c d).2.2.1, (fK f a b c d).2.2.2.1, (fK f a b c d).2.2.2.2, 0, [(oi, 1, 1)]) := by simpa using hy
    rw [ey] at h9
    have h9' : (fK f a b c d).1 = 99 := h9
    exact absurd h9' (fK_n99 f a b c d)
  · have hl := HLv_b hx
    have h5y : ∀ a i : Int, 85 ≤ a → a ≤ 94 → lo ≤ i → i < hi → ¬ (a = 85 ∧ i = n) → el (se τ' 85 n yy) a i = el τ a i := fun a i x1 x2 x3 x4 x5 => by rw [el_se, if_neg x5]; exact h5 a i x1 x2 x3 x4 x5
    have hFy := hF.tb h5y hn
    have t := tk_fone (U := UDl N x) (ℓ := 12 - x) (vlo := vlo) (P := P) (Kn := Kn) (j := L.length) (u := HLv (13 - x) + 1) (v := HLv (13 - x) + 1) (k := 1) (δ := 0) (w := 12) (av := av) (oi := oi) hN hn hFy hf (hv.1 hf oi) (by omega) (by omega) (Nat.le_refl _) (Int.le_refl _) (hw_ok (f := f) hn (Or.inr rfl))
    exact t.mono (Nat.le_refl _) (Int.le_refl _) (Int.le_refl _) (fun _ _ _ _ _ _ => rfl) (List.prefix_refl _) (Int.le_refl _) (Int.le_refl _) (by decide) (Int.le_refl _) (fun _ hx => hx) (fun _ hx => hx)
/-- functions that have a FUN -/
theorem apt_fun {D P vlo lo hi lo1 hi1 n s0 s1 t0 t1 pc fc F f place a b c d w z A B : Int} {m k : Nat} {rA : Sh → St → Int → Int → Int → Option (Sh × St × Int)} {Uo : Stq → Prop} {av : List (Int × Int)} {π : Sh} {σ τ : St} (hN : 30000001 ≤ N) (hP : P ≤ 4) (hp : PCf π σ pc f place a b c d) (h126 : fl σ 126 pc = fc) (hs : s0 ≤ pc ∧ pc < s1) (ht : (s0 ≤ t0 ∧ t1 ≤ s1) ∧ pc < t0 ∧ s1 ≤ nn π) (hf : f = 5 ∨ f = 6 ∨ f = 7 ∨ f = 8 ∨ f = 11 ∨ f = 12 ∨ f = 18 ∨ f = 19) (hn : ND lo hi n) (hF : FN τ n place f a b c d) (hv : IVf f a b c d) (h87 : el τ 87 n = F) (hl : lo ≤ lo1 ∧ hi1 ≤ hi ∧ n < lo1) (hwz : 0 ≤ w ∧ 0 ≤ z) (hav : ∀ y ∈ av, vlo ≤ y.1 ∧ y.1 ≠ n) (hA : APs N D P vlo lo1 hi1 m k w z A B Uo av 11 F t0 t1 (-1) π σ τ (fun π σ p => Pc_applyAll N rA π σ fc D p)) : APt N D P vlo lo hi (if f = 18 ∨ f = 7 ∨ f = 12 then m + 3 else m + 1) (if f = 18 ∨ f = 7 ∨ f = 12 then k + 6 else k + 3) (w + 2) (z + 1) (if f = 18 ∨ f = 7 ∨ f = 12 then A + 18 else A + 6) (if f = 18 ∨ f = 7 ∨ f = 12 then B + 180 else B + 60) Uo av 12 n s0 s1 pc π σ τ (fun π σ p => Pc_apply N rA π σ pc D p) := by
  by_cases s : f = 18 ∨ f = 7 ∨ f = 12
  · rw [if_pos s, if_pos s, if_pos s, if_pos s]
    rcases s with s | s | s
    · subst s
      exact (apt_some hN hP hp h126 hs ht rfl hn hF (Or.inr rfl) hv h87 hl hwz hav hA).mono ⟨by omega, by omega⟩ ⟨by omega, by omega⟩ ⟨by omega, by omega⟩
    · subst s
      exact (apt_off hN hP hp h126 hs ht rfl hn hF (Or.inr rfl) hv h87 hl hwz hA).mono ⟨by omega, by omega⟩ ⟨by omega, by omega⟩ ⟨by omega, by omega⟩
    · subst s
      exact (apt_inside hN hP hp h126 hs ht rfl hn hF (Or.inr rfl) hv h87 hl hwz hav hA).mono ⟨by omega, by omega⟩ ⟨by omega, by omega⟩ ⟨by omega, by omega⟩
  · rw [if_neg s, if_neg s, if_neg s, if_neg s]
    by_cases s8 : f = 8
    · subst s8
      exact (apt_over hN hP hp h126 hs ht rfl hn hF (Or.inr rfl) hv h87 hl hwz hA).mono ⟨by omega, by omega⟩ ⟨by omega, by omega⟩ ⟨by omega, by omega⟩
    · exact (apt_fun2 hN hP hp h126 hs ht rfl (by omega) hn hF (Or.inr rfl) hv h87 hl hwz hA).mono ⟨by omega, by omega⟩ ⟨by omega, by omega⟩ ⟨by omega, by omega⟩
/-- at the end state -/
theorem apq_fin {n pc o hi W Z wA zA w z A B s0 s1 : Int} {m kA : Nat} {L0 : List Stq} {Kn : List Int} {π' : Sh} {σ' τ' : St} {l : List Ech} (hN : 30000001 ≤ N) (hP : bP b ≤ 4) (xi : XEs b Xo π' σ' τ' (L0 ++ egs l) Kn) (hn : 0 ≤ n ∧ n < hi ∧ hi ≤ 32768) (hL : (L0 ++ egs l).length + m ≤ 20000) (hs : ECs N b τ' Kn L0.length (n + 1) hi l) (hch : ECn τ' (n + 1) hi n l) (hB : EBd W Z l) (hW : 0 ≤ W) (h94 : el τ' 94 n = 8) (heo : eou l = [o]) (hAt : APt N (bD b) (bP b) (bV b) n hi m kA wA zA A B (Uoe dl b) (eav l) 12 n s0 s1 pc π' σ' τ' (fun π σ p => Pc_applyC N 24 π σ pc (bD b) p)) (hw : W + 1 ≤ w ∧ wA ≤ w) (hz : Z ≤ z ∧ zA ≤ z) : ∃ π'' σ'' seg o', Pc_applyC N 24 π' σ' pc (bD b) o = some (π'', σ'', o') ∧ ADo Xo (bD b) (bP b) (L0 ++ egs l) Kn π' σ' τ' seg π'' σ'' A B ∧ seg.length ≤ m ∧ (∀ y ∈ seg, y.1 = 99 → Uoe dl b y) ∧ EXq N b τ' n hi Kn L0.length (egs l ++ seg) n o' w z (ekk l + kA + 1) := by
  obtain ⟨π'', σ'', seg, o', r1, r2, r3, r4, r5⟩ := hAt Xo π' σ' τ' (L0 ++ egs l) Kn o (PFx.rf _ _ _ _ _) xi.1 xi.2.2.2.2.2.1 hL (fun _ _ _ _ _ _ _ => rfl)
  refine ⟨π'', σ'', seg, o', r1, r2, r3, r4, fq_func hN hP hn hW h94 hs hch hB (fun x y hx => ?_) hw hz⟩
  have t := r5 x y hx
  have lj : ((L0 ++ egs l).length : Int) = L0.length + (egs l).length := by rw [List.length_append]; omega
  rw [heo, ← lj]
  exact t
set_option maxHeartbeats 1000000 in
/-- functions of one pattern -/
theorem apq_one {f place a a2 c c2 n pc op e0 : Int} {L0 : List Stq} {Kn0 : List Int} {π0 π : Sh} {σ τ : St} (hN : 30000001 ≤ N) (hP : bP b ≤ 4) (hp : PCf π σ pc f place a a2 c c2) (hs : nn π0 ≤ pc ∧ pc < nn π) (hf : isOne f) (hF : FN τ n place f a a2 c c2) (h94 : el τ 94 n = 8) (hv : IVf f a a2 c c2) (hn : 0 ≤ n) (ho : op ≤ 20 ∧ lf τ ≤ e0) : APQ N b dl Xo n pc op e0 L0 Kn0 π0 π σ τ [] 1 1 6 60 := by
  intro π' σ' τ' o x kn' e pf xO xA xi hb hL h88 hch hE hC hB
  obtain ⟨g1, g2, g3, g4, g5, g6⟩ := hF
  have hF' : FN τ' n place f a a2 c c2 := ⟨by rw [h88 93 (by omega) (by omega)]; exact g1, by rw [h88 92 (by omega) (by omega)]; exact g2, by rw [h88 91 (by omega) (by omega)]; exact g3, by rw [h88 90 (by omega) (by omega)]; exact g4, by rw [h88 89 (by omega) (by omega)]; exact g5, by rw [h88 88 (by omega) (by omega)]; exact g6⟩
  have hp' : PCf π' σ' pc f place a a2 c c2 := hp.cg pf.1 (fun g a b => pf.2.1 g pc (by omega) (by omega) hs.1 hs.2 (by omega))
  have heo : eou ([] ++ [x]) = [o] := by
    show (match eO x with | some o => [o] | none => []) ++ [] = _
    rw [xO]; rfl
  exact apq_fin hN hP xi ⟨hn, hb.1, hb.2.1⟩ hL hE hC hB (by omega) (by rw [h88 94 (by omega) (by omega)]; exact h94) heo (apt_one (rA := Pc_applyC N 23) (s0 := nn π0) (s1 := nn π) hN hp' hs hf ⟨⟨hn, by omega⟩, Int.le_refl _, hb.1⟩ hF' hv) ⟨by omega, by omega⟩ ⟨by omega, by omega⟩
end AN9
