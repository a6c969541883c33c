/-! a bracket of a text, both -/
section BK
variable {N : Nat} {Xo : Int → Prop}
theorem XS.un {π : Sh} {σ τ : St} {D P st cl s : Int} {L : List Stq} {Kn : List Int} (h : XS (XR Xo σ s) π σ τ D P L Kn st cl) : XS Xo π σ τ D P L Kn st cl := ⟨h.1, h.2.1, h.2.2.1, h.2.2.2.1, h.2.2.2.2.1, h.2.2.2.2.2.1, h.2.2.2.2.2.2.1, h.2.2.2.2.2.2.2.1.un h.1.1, h.2.2.2.2.2.2.2.2⟩
/-- the budgets -/
def BBg (x r at0 op : Int) (π0 : Sh) (σ0 : St) (π : Sh) (σ τ : St) (s : Int) (l : List Kdr) : Prop := (l.length : Int) ≤ fl τ 2 0 - at0 - 1 ∧ fl τ 16 0 ≤ r + 1 + 3 * (fl τ 2 0 - at0 - 1) ∧ ((sgs l).length : Int) ≤ 2 * (fl τ 2 0 - at0 - 1) ∧ (kss l : Int) ≤ 12 * (fl τ 2 0 - at0 - 1) ∧ KDb (fl τ 2 0 - at0 + 6 * (20 - op) + 3) (fl τ 2 0 - at0 - 1) l ∧ (nn π : Int) ≤ nn π0 + 2 + 12 * (fl τ 2 0 - at0 - 1) ∧ (sw π : Int) + 4 * cpc π0 σ0 x + 60 * l.length ≤ sw π0 + 4 * cpc π σ x + 16 + 100 * (fl τ 2 0 - at0 - 1) + 2 * ln π (fl σ 210 s) ∧ ∀ o ∈ opz l, o.2 = (1, 1)
/-- before a sequence -/
def BKi (Xo : Int → Prop) (N : Nat) (D P : Int) (L : List Stq) (Kn : List Int) (st cl r d at0 op s : Int) (π0 : Sh) (σ0 τ0 : St) (π : Sh) (σ τ : St) (l : List Kdr) : Prop := XS (XR Xo σ s) π σ τ D P (L ++ sgs l) Kn st cl ∧ RWp π σ (nn π0) s at0 (opz l) ∧ RK N τ (r + 1) (fl τ 16 0) P L.length r l ∧ XFt (fl σ0 23 D) π0 σ0 π σ ∧ RDr r d τ0 τ ∧ fl τ 13 0 = op + 1 ∧ (0 ≤ r ∧ r < fl τ 16 0) ∧ (el τ 94 r = 25 ∧ el τ 93 r = at0 ∧ el τ 92 r = l.length) ∧ fl σ 23 D = fl σ0 23 D ∧ (fl τ 41 0 = d + 2 ∧ el τ 74 d = 12 ∧ el τ 73 d = r ∧ el τ 72 d = 91) ∧ (el τ 74 (d + 1) = 10 ∧ el τ 72 (d + 1) = 0 ∧ el τ 71 (d + 1) = 0) ∧ BBg (fl σ0 23 D) r at0 op π0 σ0 π σ τ s l
/-- the reference behind a sequence in a bracket -/
theorem r_close91 {σ τ : St} {st cl d r nd b' c : Int} (h : XB σ τ st cl) (h2 : 0 ≤ fl τ 2 0 ∧ fl τ 2 0 ≤ cl) (hd : 0 ≤ d ∧ d < 500) (hF : el τ 73 d = r ∧ el τ 72 d = 91 ∧ fl τ 41 0 = d + 1 ∧ fl τ 46 0 = nd) (hr : inb r 32768 ∧ inb nd 32768) (h86 : el τ 87 r = -1 ∨ inb (el τ 86 r) 32768) (h87 : i32 (el τ 87 r)) (h92 : el τ 92 r = c) (hb : bA τ (fl τ 2 0) = b') : rdK N 12 τ d = (if b' = 44 then some (nwF (sf (se (apN τ r nd) 92 r (c + 1)) 2 0 (fl τ 2 0 + 1)) 10 (-1) 0) else r_endPart_97 N (se (apN τ r nd) 92 r (c + 1)) d r 93 b') := by
  have a0 := h.1
  have size := a0.2.2.1
  have b5 := h.2.1.2.2.2.2
  have bb := bA_rg a0 (fl τ 2 0)
  have i1 : i32 b' := by rw [← hb]; exact ⟨by omega, by omega⟩
  have e : rdK N 12 τ d = r_readPart N τ d := by unfold rdK; simp
  have e92 : el (apN τ r nd) 92 r = c := by rw [apN_el _ _ _ _ _ (by omega)]; exact h92
  have e1 : r_endPart N τ d b' = (if b' = 44 then some (nwF (sf (se (apN τ r nd) 92 r (c + 1)) 2 0 (fl τ 2 0 + 1)) 10 (-1) 0) else r_endPart_97 N (se (apN τ r nd) 92 r (c + 1)) d r 93 b') := by
    rw [r_endPart, grd_t (by exact ⟨by omega, by omega⟩), bnd, hF.1, hF.2.1, grd_t (by decide), if_pos rfl, hF.2.2.2, r_append' hr.1 hr.2 h86 h87, Option.bind_some, grd_t hr.1, grd_t i1, e92, apN_fl]
    by_cases c' : b' = 44
    · rw [if_pos c', if_pos c', bnd, r_begin' (by rw [fl_sfn _ _ _ _ (by decide), fl_se, apN_fl, hF.2.2.1]; omega), Option.bind_some]
    · rw [if_neg c', if_neg c', r_endPart_62, grd_t (by exact ⟨by omega, by omega⟩), show el (se (apN τ r nd) 92 r (c + 1)) 72 d = 91 by rw [el_sen _ _ _ _ (by decide), apN_el _ _ _ _ _ (by omega)]; exact hF.2.1, grd_t (by decide), if_pos rfl]
  rw [e, r_readPart, rr_byteAt a0 (by exact ⟨by omega, by omega⟩), Option.bind_some, grd_t (by exact ⟨by omega, by omega⟩)]
  simp only
  rw [hF.2.1, grd_t (by decide), if_pos (by decide), hb, e1]
  by_cases c' : b' = 44
  · rw [if_pos c']; rfl
  · rw [if_neg c']
    cases r_endPart_97 N (se (apN τ r nd) 92 r (c + 1)) d r 93 b' <;> rfl
set_option maxHeartbeats 16000000 in
theorem bk_one {D P st cl r d at0 op s : Int} {L : List Stq} {Kn : List Int} {π0 : Sh} {σ0 τ0 : St} {rP : Sh → St → Option (Sh × St × Int)} (hN : 30000001 ≤ N) (h0 : XS Xo π0 σ0 τ0 D P L Kn st cl) (hop : fl τ0 13 0 = op) (hop' : op < 20) (hat : fl τ0 2 0 = at0) (hr : fl τ0 16 0 = r) (hPT : PTH N D P Kn st cl rP (op + 1)) (hd : 0 ≤ d ∧ d ≤ 10 * op + 20) (hL : (L.length : Int) + 2 * (cl + 1 - at0) + 4 * (21 - op) ≤ 19000) (hM : r + 3 * (cl + 1 - at0) + 8 * (21 - op) ≤ 32768) {m n : Nat} (ih : ∀ (π : Sh) (σ τ : St) (l : List Kdr), cl - fl τ 2 0 < m → m < n → BKi Xo N D P L Kn st cl r d at0 op s π0 σ0 τ0 π (sf σ 222 50 (fl σ 222 50 + 1)) τ l → ∃ π' σ' τ' o k, Tx_bracket_18 N rP n π σ s 1 l.length = some (π', σ', o) ∧ RLp N k τ τ' ∧ PTo Xo N D P L Kn st cl d π0 σ0 τ0 π' σ' τ' o ∧ (fl τ' 11 0 = 0 → (k : Int) + 6 ≤ 8 * (fl τ' 2 0 - fl τ 2 0)) ∧ (k : Int) ≤ 8 * (cl + 1 - fl τ 2 0) + 8 * (20 - op) + 5) {π : Sh} {σ τ : St} {l : List Kdr} (hm : cl - fl τ 2 0 < ((m + 1 : Nat) : Int)) (hmn : m + 1 < n + 1) (hc : BKi Xo N D P L Kn st cl r d at0 op s π0 σ0 τ0 π (sf σ 222 50 (fl σ 222 50 + 1)) τ l) : ∃ π' σ' τ' o k, Tx_bracket_18 N rP (n + 1) π σ s 1 l.length = some (π', σ', o) ∧ RLp N k τ τ' ∧ PTo Xo N D P L Kn st cl d π0 σ0 τ0 π' σ' τ' o ∧ (fl τ' 11 0 = 0 → (k : Int) + 6 ≤ 8 * (fl τ' 2 0 - fl τ 2 0)) ∧ (k : Int) ≤ 8 * (cl + 1 - fl τ 2 0) + 8 * (20 - op) + 5 := by
  obtain ⟨σa, hσa⟩ : ∃ σa, σa = sf σ 222 50 (fl σ 222 50 + 1) := ⟨_, rfl⟩
  rw [← hσa] at hc
  obtain ⟨c1, c2, c3, c4, c5, c6, c7, c7', c8, c10, c11, c9⟩ := id hc
  obtain ⟨X1, X2, X3, X4, X5, X6, X7, X8, X9⟩ := id h0
  obtain ⟨dd1, dd2, dd3, dd4, dd5⟩ := X8.b
  have n56 := X1.1
  have N3 : 3000 ≤ N := by omega
  have ng := c4.1.1
  have sn := c2.1.2.1
  have opb : 0 ≤ op := by have := X5.2; omega
  obtain ⟨x1, x2, x3, ⟨x4, x4'⟩, x5, x6, x7, x8, x9⟩ := id c1
  have size := x2.1.2.2.1
  obtain ⟨p, hp⟩ : ∃ p, fl τ 2 0 = p := ⟨_, rfl⟩
  obtain ⟨h16, hh16⟩ : ∃ h16, fl τ 16 0 = h16 := ⟨_, rfl⟩
  obtain ⟨g1, g2, g3, g4, g5, g6, g7, g8⟩ := c9
  rw [hp] at g1 g2 g3 g4 g5 g6 g7 hm
  rw [hh16] at g2 c7 c3
  have pos := x2.2.1
  rw [← x3, hp] at pos
  have bs := X2.2.1
  rw [← X3, hat] at bs
  have len := opz_len l
  have lenI : ((L ++ sgs l).length : Int) = L.length + (sgs l).length := by rw [List.length_append]; omega
  have e182 : fl σ 182 1 = 0 := by rw [hσa, fl_sfn _ _ _ _ (by decide)] at x4; exact x4
  -- the sequence
  obtain ⟨π1, σ1, τ1, o, k1, p1, p2, p3, p4, p5⟩ := seq_both (N := N) (d := d + 1) (op := op + 1) (rP := rP) hN c1 c6 hPT ⟨by rw [c10.1]; omega, c11.1, c11.2.1, c11.2.2⟩ ⟨by omega, by omega⟩ (by rw [lenI, hp]; omega) (by rw [hp, hh16]; omega)
  obtain ⟨y1, y2, y3⟩ := p3
  rw [hp] at p4 p5
  rw [hh16] at y2
  rw [c8] at y1
  have cls : Tx_bracket_18 N rP (n + 1) π σ s 1 l.length = Tx_bracket_54 N rP (Tx_bracket_18 N rP n) π1 σ1 s l.length o s := by
    rw [Tx_bracket_18, grd_t (by exact ⟨by omega, by omega⟩), if_pos (by omega), grd_t (by decide), if_neg (by decide), e182, grd_t (by decide), if_pos rfl, bnd, ← hσa, p1, Option.bind_some]
  have ft1 : XFt (fl σ0 23 D) π0 σ0 π1 σ1 := c4.tr y1
  have rd1 : RDr r d τ0 τ1 := c5.tr y2 (by omega) (by omega)
  obtain ⟨rp1, kf1⟩ := c2.ft x8 (by rw [c8]; exact y1)
  have kk3 : XR Xo σ1 s = XR Xo σa s := XR.eq (fun f _ _ => kf1 f)
  have ng1 := y1.1.1
  have e123 : fl σ1 23 D = fl σ0 23 D := ft1.2.1 23 D dd1.2 (by omega) (by omega) (by omega)
  have ln1 : ln π1 (fl σ1 210 s) = ln π (fl σa 210 s) := by rw [kf1 210, (y1.1.2.2 _ c2.1.2.2.2.1.2.1).2]
  obtain ⟨n', hn'⟩ : ∃ n', n = n' + 1 := ⟨n - 1, by omega⟩
  have rdF : ∀ a : Int, 71 ≤ a → a ≤ 74 → el τ1 a d = el τ a d := fun a u1 u2 => y2.2.2.2 a d u1 u2 (by omega)
  rcases y3 with ⟨w1, ⟨L', w2, w2'⟩, w3⟩ | ⟨seg, nd, w1, w2, w3, w4, w5, w6, w7, w8, w9, w10, w11⟩
  · -- a fault in it
    rw [lenI, hp] at w2'
    rw [c6, hp, c8] at w3
    rw [← kk3] at w2
    obtain ⟨π2, σ2, u1, u2, u3, u4, u5, u6, u7, u8, u9⟩ := bk_fault (N := N) (o := o) (x3 := l.length) (rP := rP) (n := n') N3 w2 w1 rp1 (by omega) (by omega) ⟨by omega, by omega⟩
    rw [hn'] at cls
    have k1x : fl σ2 1 (fl σ0 23 D) = fl σ1 1 (fl σ0 23 D) := u9 1 _ (by omega) (by omega) (by omega)
    have bl1 := w2.2.2.2.b.2.2.2.1
    rw [e123] at bl1
    have cp2 : cpc π2 σ2 (fl σ0 23 D) = cpc π1 σ1 (fl σ0 23 D) := by
      unfold cpc
      rw [k1x]
      by_cases cc : fl σ1 1 (fl σ0 23 D) < 0
      · rw [if_pos cc, if_pos cc]
      · rw [if_neg cc, if_neg cc, (u4.2.2 _ bl1).2]
    rw [← hn'] at cls
    refine ⟨π2, σ2, τ1, 0, k1, by rw [cls, hn']; exact u1, p2, ⟨⟨ft1.1.tr u4, fun f i q1 q2 q3 q4 => (u5 f i q1 q2 q3).trans (ft1.2.1 f i q1 q2 q3 q4), fun x j q1 q2 => (u6 x j q1).trans (ft1.2.2.1 x j q1 q2), by rw [k1x]; exact ft1.2.2.2⟩, by rw [hr]; exact rd1, Or.inl ⟨u2, ⟨L', u3, by rw [hat]; omega⟩, ?_⟩⟩, fun e => by have := w1.2.2; omega, by rw [hp]; omega⟩
    have v1 := w3.1
    have v2 := w3.2
    rw [hat, hop]
    rw [ln1] at u8
    exact ⟨by omega, by rw [cp2]; omega⟩
  · rw [hp, hh16, c6] at w7
    rw [hh16] at w5 w9
    rw [hp] at w8 w9 w10 w11
    rw [c8] at w11
    obtain ⟨at3, hat3⟩ : ∃ at3, fl τ1 2 0 = at3 := ⟨_, rfl⟩
    rw [hat3] at w6 w7 w8 w9 w10 w11 p4
    rw [← kk3] at w1
    obtain ⟨z1, z2, z3, ⟨z4, z4'⟩, z5, z6, z7, z8, z9⟩ := id w1
    have pos3 := z2.2.1
    rw [← z3, hat3] at pos3
    obtain ⟨h17, hh17⟩ : ∃ h17, fl τ1 16 0 = h17 := ⟨_, rfl⟩
    rw [hh17] at w5 w7 w9
    obtain ⟨π2, σ2, v1, v2, v3, v4, v5, v6, v7, v8⟩ := rp_give (N := N) (o := o) rp1 z8 (by omega) (by omega) (by omega)
    have xs2 : XS (XR Xo σ2 s) π2 σ2 τ1 D P (L ++ sgs l ++ seg) Kn st cl := w1.gw v3 (by omega) v5
    have s222 : fl σ2 222 50 = at3 := by rw [v3.2.1 222 50 (by omega), ← z3]; exact hat3
    have rk1 : RK N τ1 (r + 1) h16 P L.length r l := c3.mv ⟨by omega, by omega, by omega⟩ h16 ⟨Int.le_refl _, by omega⟩ (fun a i u1 u2 u3 => y2.2.2.1 a i (by omega) u2 u3)
    obtain ⟨l1, l2, l3⟩ := rk1.lst ⟨by omega, by omega⟩
    obtain ⟨x, hx⟩ : ∃ x : Kdr, x = (nd, nd, o, (1, 1), seg, (h16, h17), (at3 - p + 6 * (21 - (op + 1)) + 2, at3 - p), (12 * (at3 - p) + 3).toNat) := ⟨_, rfl⟩
    have xk : KD1 N τ1 (r + 1) h17 P (L.length + (sgs l).length) x := by
      rw [hx]
      refine ⟨⟨⟨by show 0 ≤ nd; omega, by show nd < 32768; omega⟩, by show r + 1 ≤ nd; omega, by show nd < h17; omega⟩, ?_, ?_, ?_, ⟨by show r + 1 ≤ h16; omega, by show h17 ≤ h17; omega⟩, ⟨by show h16 ≤ nd; omega, by show nd < h17; omega⟩, Or.inl rfl, ?_⟩
      · show 0 ≤ el τ1 94 nd ∧ el τ1 94 nd < 100
        rw [w6.1]; decide
      · show nd = if el τ1 94 nd = 24 then el τ1 87 nd else nd
        rw [w6.1, if_neg (by decide)]
      · show ((1 : Int), (1 : Int)) = wtn τ1 nd
        unfold wtn
        rw [w6.1, if_neg (by decide)]
      · show TXq N τ1 h16 h17 P (L.length + (sgs l).length) seg nd o _ _ _
        rw [← lenI]
        exact w7
    have rk2 : RK N (apN τ1 r nd) (r + 1) h17 P L.length r (l ++ [x]) := rk1.app (hi1 := h17) (c := nd) ⟨by omega, by omega⟩ ⟨by omega, by omega, by omega, by omega⟩ xk (by rw [hx]; rfl) (by rw [hx]; exact Int.le_refl _)
    obtain ⟨τ2, hτ2⟩ : ∃ τ2, τ2 = se (apN τ1 r nd) 92 r ((l.length : Int) + 1) := ⟨_, rfl⟩
    have rk3 : RK N τ2 (r + 1) h17 P L.length r (l ++ [x]) := by rw [hτ2]; exact rk2.n92 ⟨by omega, by omega, by omega⟩
    have f2 : ∀ (f : Nat) (i : Int), fl τ2 f i = fl τ1 f i := fun f i => by rw [hτ2, fl_se, apN_fl]
    have rdA : RDr r d τ1 τ2 := by
      rw [hτ2]
      exact (apN_rd (RDr.rf _ _ τ1) ⟨Int.le_refl _, by omega, by rcases l3 with q | q; exact Or.inl q; exact Or.inr (by omega)⟩).sn 92 r _ (by omega) (Int.le_refl _)
    have e92r : el τ1 92 r = l.length := by rw [y2.2.2.1 92 r (by omega) (by omega) (by omega)]; exact c7'.2.2
    have e2r : ∀ a : Int, 93 ≤ a → a ≤ 94 → el τ2 a r = el τ a r := fun a u1 u2 => by
      rw [hτ2, el_sen _ _ _ _ (by omega), apN_el _ _ _ _ _ (by omega)]; exact y2.2.2.1 a r (by omega) (by omega) (by omega)
    have e2f : ∀ a : Int, 71 ≤ a → a ≤ 74 → el τ2 a d = el τ a d := fun a u1 u2 => by
      rw [hτ2, el_sen _ _ _ _ (by omega), apN_el _ _ _ _ _ (by omega)]; exact rdF a u1 u2
    have rc := r_close91 (N := N) (d := d) (r := r) (nd := nd) (c := l.length) (b' := bA τ1 at3) z2 (by rw [hat3]; omega) ⟨hd.1, by omega⟩ ⟨by rw [rdF 73 (by decide) (by decide)]; exact c10.2.2.1, by rw [rdF 72 (by decide) (by decide)]; exact c10.2.2.2, w2, w3⟩ ⟨⟨by omega, by omega⟩, ⟨by omega, by omega⟩⟩ l1 l2 e92r (by rw [hat3])
    rw [hat3, ← hτ2] at rc
    have rF : ∀ τ', rdK N 12 τ1 d = some τ' → RLp N 1 τ1 τ' := fun τ' e => RLp.one w2 ⟨by omega, by omega⟩ z4' ⟨by rw [rdF 74 (by decide) (by decide)]; exact c10.2.1, by decide, by decide⟩ e
    have bb := bA_rg z2.1 at3
    have i1 : i32 (bA τ1 at3) := ⟨by omega, by omega⟩
    have oL : opz (l ++ [x]) = opz l ++ [(o, 1, 1)] := by unfold opz; rw [List.map_append, hx]; rfl
    have sL : L ++ sgs (l ++ [x]) = L ++ sgs l ++ seg := by
      rw [sgs_app, show sgs [x] = seg by rw [hx]; show seg ++ [] = _; rw [List.append_nil], List.append_assoc]
    have lenX : ((l ++ [x]).length : Int) = l.length + 1 := by rw [List.length_append]; simp
    have lenS : ((sgs (l ++ [x])).length : Int) = (sgs l).length + seg.length := by
      rw [sgs_app, show sgs [x] = seg by rw [hx]; show seg ++ [] = _; rw [List.append_nil], List.length_append]; omega
    have kX : (kss (l ++ [x]) : Int) = kss l + (12 * (at3 - p) + 3) + 1 := by
      rw [kss_app]
      have e1 : kss [x] = (12 * (at3 - p) + 3).toNat + 1 := by rw [hx]; show qK _ + 1 + 0 = _; rfl
      rw [e1]
      omega
    have o8 : ∀ y ∈ opz (l ++ [x]), y.2 = (1, 1) := fun y hy => by
      rw [oL] at hy
      rcases List.mem_append.1 hy with q | q
      · exact g8 y q
      · have e : y = (o, 1, 1) := by simpa using q
        rw [e]
    have kb : ∀ u v : Int, at3 - at0 + 6 * (20 - op) + 3 ≤ u → at3 - at0 ≤ v → KDb u v (l ++ [x]) := fun u v hu hv => by
      refine KDb.app (g5.mono (by omega) (by omega)) ?_ ?_
      · rw [hx]; show at3 - p + 6 * (21 - (op + 1)) + 2 + 1 ≤ u; omega
      · rw [hx]; show at3 - p + l.length ≤ v; omega
    have sp1 : fl σ1 1 (fl σ0 23 D) = fl σ2 1 (fl σ0 23 D) := (v8 1 _ (by omega)).symm
    have bl1 := z8.b.2.2.2.1
    rw [e123] at bl1
    have cp2 : ∀ σ', fl σ' 1 (fl σ0 23 D) = fl σ2 1 (fl σ0 23 D) → cpc π2 σ' (fl σ0 23 D) = cpc π1 σ1 (fl σ0 23 D) := fun σ' e => by
      unfold cpc
      rw [e, ← sp1]
      by_cases cc : fl σ1 1 (fl σ0 23 D) < 0
      · rw [if_pos cc, if_pos cc]
      · rw [if_neg cc, if_neg cc, (v3.1.2.2 _ bl1).2]
    have ft2 : XFt (fl σ0 23 D) π0 σ0 π2 σ2 := ft1.own v3 (v8 1 _ (by omega))
    have v11 := w11.1
    have v12 := w11.2
    rw [ln1] at v7
    have op1 : fl τ1 13 0 = op + 1 := by rw [w4]; exact c6
    have cls2 : Tx_bracket_18 N rP (n + 1) π σ s 1 l.length = Tx_bracket_18 N rP n π2 σ2 s (if bA τ1 at3 = 44 then 1 else 0) (l.length + 1) := by
      rw [cls, Tx_bracket_54, v1, Option.bind_some, grd_t v2, Tx_bracket_57, c_here xs2.2.1, Option.bind_some, s222]
      simp only
      rw [grd_t i1]
      by_cases c : bA τ1 at3 = 44
      · rw [if_pos c, if_pos c, Tx_bracket_72]
      · rw [if_neg c, if_neg c, Tx_bracket_72]
    by_cases cb : bA τ1 at3 = 44
    · -- another one
      rw [if_pos cb] at rc cls2
      have acl : at3 < cl := by
        by_cases c : at3 < cl
        · exact c
        · rw [show at3 = cl by omega, z2.2.2.1] at cb; omega
      obtain ⟨τ3, hτ3⟩ : ∃ τ3, τ3 = nwF (sf τ2 2 0 (at3 + 1)) 10 (-1) 0 := ⟨_, rfl⟩
      rw [← hτ3] at rc
      obtain ⟨σ3, hσ3⟩ : ∃ σ3, σ3 = sf σ2 222 50 (fl σ2 222 50 + 1) := ⟨_, rfl⟩
      have e41 : fl (sf τ2 2 0 (at3 + 1)) 41 0 = d + 1 := by rw [fl_sfn _ _ _ _ (by decide), f2]; exact w2
      have f3 : ∀ (f : Nat) (i : Int), f ≠ 41 → f ≠ 2 → fl τ3 f i = fl τ1 f i := fun f i a b => by rw [hτ3, nwF_fl _ _ _ _ _ _ a, fl_sfn _ _ _ _ b, f2]
      have f32 : fl τ3 2 0 = at3 + 1 := by rw [hτ3, nwF_fl _ _ _ _ _ _ (by decide), fl_sfs]
      have el3 : ∀ a i : Int, ¬ (71 ≤ a ∧ a ≤ 74 ∧ i = d + 1) → el τ3 a i = el τ2 a i := fun a i hx => by rw [hτ3, nwF_el _ _ _ _ _ _ (by rw [e41]; exact hx), el_sf]
      have vv := nwF_v (sf τ2 2 0 (at3 + 1)) 10 (-1) 0
      rw [← hτ3, e41] at vv
      have g3' : ∀ (f : Nat) (i : Int), ¬ (f = 222 ∧ i = 50) → fl σ3 f i = fl σ2 f i := fun f i hx => by rw [hσ3, fl_sf, if_neg hx]
      have xf3 : XFc σ2 σ3 := by rw [hσ3]; exact (XFc.rf σ2).at _
      have rd13 : RDr r d (sf τ1 2 0 (at3 + 1)) τ3 := ⟨fun f i a1 a2 a3 a4 a5 => by rw [f3 f i a3 (by omega), fl_sfn _ _ _ _ (by omega)], fun a j q _ => by rw [el3 a j (by omega)]; exact rdA.2.1 a j (by omega) (by omega), fun a j q1 q2 q3 => by rw [el3 a j (by omega)]; exact rdA.2.2.1 a j q1 q2 q3, fun a j q1 q2 q3 => by rw [el3 a j (by omega)]; exact rdA.2.2.2 a j q1 q2 q3⟩
      have xs3 : XS (XR Xo σ3 s) π2 σ3 τ3 D P (L ++ sgs (l ++ [x])) Kn st cl := by
        rw [sL, XR.eq (σ := σ2) (fun f _ _ => g3' f s (by omega))]
        have t := xs2.at (k := at3 + 1) (by rw [s222]; omega)
        rw [hσ3, s222]
        exact t.rd rd13 ⟨by rw [f32, fl_sfs], by rw [f3 11 0 (by decide) (by decide), fl_sfn _ _ _ _ (by decide)], by rw [f3 13 0 (by decide) (by decide), fl_sfn _ _ _ _ (by decide)], by rw [f3 47 0 (by decide) (by decide), fl_sfn _ _ _ _ (by decide)], by rw [f3 16 0 (by decide) (by decide)]; exact z9⟩
      have f316 : fl τ3 16 0 = h17 := by rw [f3 16 0 (by decide) (by decide)]; exact hh17
      have rk4 : RK N τ3 (r + 1) h17 P L.length r (l ++ [x]) := rk3.mv ⟨by omega, by omega, by omega⟩ h17 ⟨Int.le_refl _, by omega⟩ (fun a i u1 u2 _ => el3 a i (by omega))
      have bki : BKi Xo N D P L Kn st cl r d at0 op s π0 σ0 τ0 π2 σ3 τ3 (l ++ [x]) := by
        refine ⟨xs3, ?_, by rw [f316]; exact rk4, ft2.xf xf3 (by omega), ?_, by rw [f3 13 0 (by decide) (by decide)]; exact op1, ⟨c7.1, by rw [f316]; omega⟩, ⟨?_, ?_, ?_⟩, ?_, ⟨by rw [hτ3, nwF_41, e41]; omega, ?_, ?_, ?_⟩, ⟨vv.1, vv.2.2.1, vv.2.2.2⟩, ?_⟩
        · rw [oL]; exact v4.cg (ext.rf _) (fun f _ _ => g3' f s (by omega)) (fun a j _ => by rw [hσ3]; rfl)
        · exact rd1.tr (((RDr.rf r d τ1).sf 2 (at3 + 1) (by omega)).tr rd13 (Int.le_refl _) (Int.le_refl _)) (Int.le_refl _) (Int.le_refl _)
        · rw [el3 94 r (by omega), e2r 94 (by decide) (by decide)]; exact c7'.1
        · rw [el3 93 r (by omega), e2r 93 (by decide) (by decide)]; exact c7'.2.1
        · rw [el3 92 r (by omega), hτ2, el_ses, lenX]
        · rw [g3' 23 D (by omega), v8 23 D (by omega)]; exact e123
        · rw [el3 74 d (by omega), e2f 74 (by decide) (by decide)]; exact c10.2.1
        · rw [el3 73 d (by omega), e2f 73 (by decide) (by decide)]; exact c10.2.2.1
        · rw [el3 72 d (by omega), e2f 72 (by decide) (by decide)]; exact c10.2.2.2
        · unfold BBg
          rw [f32, f316, lenX, lenS, kX, g3' 210 s (by omega), cp2 σ3 (g3' 1 _ (by omega))]
          exact ⟨by omega, by omega, by omega, by omega, kb _ _ (by omega) (by omega), by omega, by omega, o8⟩
      rw [hσ3] at bki
      obtain ⟨π', σ', τ', o', k', u1, u2, u3, u4, u5⟩ := ih π2 σ2 τ3 (l ++ [x]) (by rw [f32]; omega) (by omega) bki
      rw [f32] at u4 u5
      refine ⟨π', σ', τ', o', k1 + 1 + k', ?_, (p2.tr (rF τ3 rc)).tr u2, u3, fun e => ?_, ?_⟩
      · rw [cls2, ← lenX]; exact u1
      · have := u4 e; have := p4 z4'; rw [hp]; omega
      · have := p4 z4'; rw [hp]; omega
    · rw [if_neg cb] at rc cls2
      have cls3 : Tx_bracket_18 N rP (n + 1) π σ s 1 l.length = Tx_bracket_79 N rP π2 σ2 s := by
        rw [cls2, hn', Tx_bracket_18, grd_t (by exact ⟨by omega, by omega⟩)]
        by_cases c' : (l.length : Int) + 1 < 2000
        · rw [if_pos c', grd_t (by decide), if_pos rfl]
        · rw [if_neg c']
      obtain ⟨t1, t2, t3, ⟨t4, t4'⟩, t5, t6, t7, t8, t9⟩ := id xs2
      have tk := c_takeN (N := N) (π := π2) (s := 93) N3 t2 (by rw [s222]; exact w6.2) (by rw [t4]; decide) (by decide)
      rw [s222] at tk
      have e72 : el τ2 72 d = 91 := by rw [e2f 72 (by decide) (by decide)]; exact c10.2.2.2
      have sop : fl σ2 184 1 = op + 1 := by rw [t5.1]; exact op1
      have kp := p4 z4'
      by_cases cc : bA τ1 at3 = 93
      · -- closed
        rw [if_pos cc] at tk
        have acl := tk.2 cc
        obtain ⟨σ4, hσ4⟩ : ∃ σ4, σ4 = sf (sf σ2 222 50 (at3 + 1)) 184 1 op := ⟨_, rfl⟩
        obtain ⟨τ4, hτ4⟩ : ∃ τ4, τ4 = sf (sf τ2 2 0 (at3 + 1)) 13 0 op := ⟨_, rfl⟩
        have g4' : ∀ (f : Nat) (i : Int), ¬ (f = 222 ∧ i = 50) → ¬ (f = 184 ∧ i = 1) → fl σ4 f i = fl σ2 f i := fun f i a b => by rw [hσ4, fl_sf, if_neg b, fl_sf, if_neg a]
        have e4 : ∀ a j, el σ4 a j = el σ2 a j := fun a j => by rw [hσ4]; rfl
        have f4 : ∀ (f : Nat) (i : Int), f ≠ 2 → f ≠ 13 → fl τ4 f i = fl τ1 f i := fun f i a b => by rw [hτ4, fl_sfn _ _ _ _ b, fl_sfn _ _ _ _ a, f2]
        have xr4 : XR Xo σ4 s = XR Xo σ2 s := XR.eq (fun f _ _ => g4' f s (by omega) (by omega))
        have xs4 : ∀ x' : Int, XS (XR Xo σ4 s) π2 σ4 (sf (sf τ4 46 0 x') 41 0 d) D P (L ++ sgs l ++ seg) Kn st cl := fun x' => by
          rw [xr4, hσ4]
          have t := (xs2.at (k := at3 + 1) (by rw [s222]; omega)).op (v := op) ⟨by omega, by omega⟩
          refine t.rd (lo := r) (d := d) (τ' := sf (sf τ4 46 0 x') 41 0 d) ?_ ⟨?_, ?_, ?_, ?_, ?_⟩
          · have q : RDr r d (sf (sf τ1 2 0 (at3 + 1)) 13 0 op) τ4 := by
              rw [hτ4]
              exact ⟨fun f i a1 a2 a3 a4 a5 => by rw [fl_sfn _ _ _ _ (by omega), fl_sfn _ _ _ _ (by omega), fl_sfn _ _ _ _ (by omega), fl_sfn _ _ _ _ (by omega), f2], fun a j q1 q2 => rdA.2.1 a j q1 q2, fun a j q1 q2 q3 => rdA.2.2.1 a j q1 q2 q3, fun a j q1 q2 q3 => rdA.2.2.2 a j q1 q2 q3⟩
            exact (q.sf 46 _ (by omega)).sf 41 _ (by omega)
          · rw [fl_sfn _ _ _ _ (by decide), fl_sfn _ _ _ _ (by decide), hτ4, fl_sfn _ _ _ _ (by decide), fl_sfs, fl_sfn _ _ _ _ (by decide), fl_sfs]
          · rw [fl_sfn _ _ _ _ (by decide), fl_sfn _ _ _ _ (by decide), f4 11 0 (by decide) (by decide), fl_sfn _ _ _ _ (by decide), fl_sfn _ _ _ _ (by decide)]
          · rw [fl_sfn _ _ _ _ (by decide), fl_sfn _ _ _ _ (by decide), hτ4, fl_sfs, fl_sfs]
          · rw [fl_sfn _ _ _ _ (by decide), fl_sfn _ _ _ _ (by decide), f4 47 0 (by decide) (by decide), fl_sfn _ _ _ _ (by decide), fl_sfn _ _ _ _ (by decide)]
          · rw [fl_sfn _ _ _ _ (by decide), fl_sfn _ _ _ _ (by decide), f4 16 0 (by decide) (by decide)]; exact z9
        have rd4 : ∀ x' : Int, RDr r d τ0 (sf (sf τ4 46 0 x') 41 0 d) := fun x' => by
          rw [hτ4]
          exact ((((rd1.tr rdA (Int.le_refl _) (Int.le_refl _)).sf 2 _ (by omega)).sf 13 _ (by omega)).sf 46 _ (by omega)).sf 41 _ (by omega)
        have ft4 : XFt (fl σ0 23 D) π0 σ0 π2 σ4 := ft2.st (fun f i a b => g4' f i (by omega) (by omega)) e4 (by omega)
        have e94 : el τ4 94 r = 25 := by rw [hτ4, el_sf, el_sf, e2r 94 (by decide) (by decide)]; exact c7'.1
        have e92 : el τ4 92 r = (l.length : Int) + 1 := by rw [hτ4, el_sf, el_sf, hτ2, el_ses]
        have e41 : fl τ4 41 0 = d + 1 := by rw [f4 41 0 (by decide) (by decide)]; exact w2
        have r97 : rdK N 12 τ1 d = r_endPart_167 N τ4 r := by
          rw [rc, r_endPart_97, grd_t i1, grd_t (by decide), if_pos cc, grd_t (by exact ⟨by omega, by omega⟩), e72, grd_t (by decide), if_neg (by decide), f2, hat3, f2, op1, show op + 1 - 1 = op by omega, ← hτ4]
        have r199 : ∀ x' : Int, r_endPart_199 N τ4 x' = some (sf (sf τ4 46 0 x') 41 0 d) := fun x' => by
          rw [r_endPart_199, r_finish', Option.bind_some, e41, show d + 1 - 1 = d by omega]
        have q1 : fl (sf σ2 222 50 (at3 + 1)) 182 1 = 0 := by rw [fl_sfn _ _ _ _ (by decide)]; exact t4
        have q2 : fl (sf σ2 222 50 (at3 + 1)) 184 1 - 1 = op := by rw [fl_sfn _ _ _ _ (by decide), sop]; omega
        have q3 : fl (sf σ2 222 50 (at3 + 1)) 221 50 = D := by rw [fl_sfn _ _ _ _ (by decide)]; exact t7
        have q4 : ∀ f : Nat, f ≠ 222 → fl (sf σ2 222 50 (at3 + 1)) f s = fl σ2 f s := fun f hf => fl_sfn _ _ _ _ hf
        have l209 : fl σ2 209 s = (l.length : Int) + 1 := by
          have := v4.1.2.2.1
          rw [this, List.length_append, len]; simp
        have c79 : Tx_bracket_79 N rP π2 σ2 s = (if (l.length : Int) + 1 = 1 then grd (ob π2 (fl σ2 210 s) 22) (grd (ina π2 (fl σ2 210 s) 0) (some (π2, σ4, el σ2 (fl σ2 210 s) 0))) else Option.bind (Df_add N π2 σ4 D s) (fun r30 => grd (ob π2 D 1) (some (r30.1, r30.2.1, r30.2.2)))) := by
          rw [Tx_bracket_79, tk.1, Option.bind_some, q1, grd_t (by decide), if_pos rfl, grd_t v4.1.1, q4 209 (by decide), q4 210 (by decide), q2, q3, bnd, ← hσ4, l209, grd_t (by exact ⟨by omega, by omega⟩)]
          rfl
        have f42 : ∀ x' : Int, fl (sf (sf τ4 46 0 x') 41 0 d) 2 0 = at3 + 1 := fun x' => by rw [fl_sfn _ _ _ _ (by decide), fl_sfn _ _ _ _ (by decide), hτ4, fl_sfn _ _ _ _ (by decide), fl_sfs]
        have f413 : ∀ x' : Int, fl (sf (sf τ4 46 0 x') 41 0 d) 13 0 = op := fun x' => by rw [fl_sfn _ _ _ _ (by decide), fl_sfn _ _ _ _ (by decide), hτ4, fl_sfs]
        have f416 : ∀ x' : Int, fl (sf (sf τ4 46 0 x') 41 0 d) 16 0 = h17 := fun x' => by rw [fl_sfn _ _ _ _ (by decide), fl_sfn _ _ _ _ (by decide), f4 16 0 (by decide) (by decide)]; exact hh17
        have f446 : ∀ x' : Int, fl (sf (sf τ4 46 0 x') 41 0 d) 46 0 = x' := fun x' => by rw [fl_sfn _ _ _ _ (by decide), fl_sfs]
        have f441 : ∀ x' : Int, fl (sf (sf τ4 46 0 x') 41 0 d) 41 0 = d := fun x' => fl_sfs _ _ _ _
        have el4 : ∀ (x' a i : Int), el (sf (sf τ4 46 0 x') 41 0 d) a i = el τ2 a i := fun x' a i => by rw [hτ4]; rfl
        by_cases one : l = []
        · -- one alone
          have l0 : l.length = 0 := by rw [one]; rfl
          have e87 : el τ4 87 r = nd := by
            have t := rk3.2.1
            rw [one] at t
            have t' := t.1.1
            rw [hτ4, el_sf, el_sf, t', hx]; rfl
          have e0 : el σ2 (fl σ2 210 s) 0 = o := by
            have t := v4.1.2.2.2.2.2.2.2
            rw [show opz l = [] by rw [one]; rfl] at t
            exact t.1
          have i0 : ina π2 (fl σ2 210 s) 0 := by
            have t := v4.1.2.2.2.2.2.1
            rw [List.length_append] at t
            simp at t
            refine ⟨by decide, by omega, ?_⟩
            have := v4.1.2.2.2.2.2.2.1
            rw [List.length_append, len, l0] at this
            simp at this
            omega
          have s0 : sgs l = [] := by rw [one]; rfl
          have xs5 := (xs4 nd).un
          rw [s0, List.append_nil] at xs5
          refine ⟨π2, σ4, sf (sf τ4 46 0 nd) 41 0 d, o, k1 + 1, ?_, p2.tr (rF _ ?_), ⟨ft4, by rw [hr]; exact rd4 nd, Or.inr ⟨seg, nd, xs5, f441 nd, f446 nd, by rw [f413, hop], ⟨by rw [hr]; omega, by rw [f416]; omega⟩, ?_, ?_, by rw [f42, hat]; omega, by rw [f416, f42, hr, hat]; omega, by rw [f42, hat]; omega, ?_⟩⟩, fun _ => by rw [f42, hp]; omega, by rw [hp]; omega⟩
          · rw [cls3, c79, if_pos (by omega), grd_t v4.1.2.2.2.1, grd_t i0, e0]
          · rw [r97, r_endPart_167, grd_t (by exact ⟨by omega, by omega⟩), e94, grd_t (by decide), if_pos rfl, e92, grd_t (by exact ⟨by omega, by omega⟩), if_pos (by omega), e87, r199]
          · rw [el4, hτ2, el_sen _ _ _ _ (by decide), apN_el _ _ _ _ _ (by omega), w6.1]; decide
          · rw [hr, hat, hop, f416, f42]
            have w7' := w7
            rw [lenI, s0] at w7'
            simp only [List.length_nil] at w7'
            rw [show (L.length : Int) + ((0 : Nat) : Int) = L.length by omega] at w7'
            refine w7'.cg (fun a i u1 u2 u3 u4 u5 => ?_) ⟨by omega, Int.le_refl _⟩ ⟨by omega, by omega, by omega⟩
            rw [el4, hτ2, el_se, if_neg (by omega)]
            rcases l3 with q | q
            · have : apN τ1 r nd = se (se (se τ1 87 r nd) 86 r nd) 85 nd (-1) := by unfold apN; rw [if_pos q]
              rw [this, el_se, if_neg u5, el_se, if_neg (by omega), el_se, if_neg (by omega)]
            · have t := rk1.2.1
              rw [one] at t
              have t' : el τ1 87 r = -1 := t
              have : apN τ1 r nd = se (se (se τ1 87 r nd) 86 r nd) 85 nd (-1) := by unfold apN; rw [if_pos t']
              rw [this, el_se, if_neg u5, el_se, if_neg (by omega), el_se, if_neg (by omega)]
          · rw [f42, hat]
            have c0 := cp2 σ4 (g4' 1 _ (by omega) (by omega))
            have lnb := v4.1.2.2.2.2.2.2.1
            rw [List.length_append, len, l0] at lnb
            simp at lnb
            exact ⟨by omega, by rw [c0]; omega⟩
        · -- a row of them
          have lpos : 1 ≤ l.length := by
            cases l with
            | nil => exact absurd rfl one
            | cons => simp
          have x4s := xs4 r
          have v4' : RWp π2 σ4 (nn π0) s at0 (opz (l ++ [x])) := by
            rw [oL]; exact v4.cg (ext.rf _) (fun f _ _ => g4' f s (by omega) (by omega)) (fun a j _ => e4 a j)
          have len' := opz_len (l ++ [x])
          obtain ⟨π5, σ5, u1, u2, u3, u4, u5, u6⟩ := row_add5 (N := N) (a := (l.length : Int) + 1) x4s.2.2.2.2.2.2.2.1 v4' (by rw [len', List.length_append]; simp; omega) (fun x hx => (X8.2.2.2.2.2.2.2.1 x hx).2) (by rw [List.length_append, List.length_append]; omega) (by have := v3.1.1; omega)
          have xs5 := x4s.ls u3 u4
          have e23 : fl σ4 23 D = fl σ0 23 D := by rw [g4' 23 D (by omega) (by omega), v8 23 D (by omega)]; exact e123
          rw [e23] at u3 u6
          rw [← sL] at xs5 u1
          have c0 := cp2 σ4 (g4' 1 _ (by omega) (by omega))
          have lnb := v4.1.2.2.2.2.2.2.1
          rw [List.length_append, len] at lnb
          simp at lnb
          have lenI' : ((L ++ sgs (l ++ [x])).length : Int) = L.length + (sgs (l ++ [x])).length := by rw [List.length_append]; omega
          refine ⟨π5, σ5, sf (sf τ4 46 0 r) 41 0 d, P + (L ++ sgs (l ++ [x])).length, k1 + 1, ?_, p2.tr (rF _ ?_), ⟨ft4.ls u3, by rw [hr]; exact rd4 r, Or.inr ⟨sgs (l ++ [x]) ++ [(5, at0, (l.length : Int) + 1, 0, 0, 0, 0, opz (l ++ [x]))], r, by rw [← List.append_assoc]; exact xs5, f441 r, f446 r, by rw [f413, hop], ⟨by rw [hr]; exact Int.le_refl _, by rw [f416]; omega⟩, ?_, ?_, by rw [f42, hat]; omega, by rw [f416, f42, hr, hat]; omega, ?_, ?_⟩⟩, fun _ => by rw [f42, hp]; omega, by rw [hp]; omega⟩
          · rw [cls3, c79, if_neg (by omega), u1, Option.bind_some, grd_t u2]
          · rw [r97, r_endPart_167, grd_t (by exact ⟨by omega, by omega⟩), e94, grd_t (by decide), if_pos rfl, e92, grd_t (by exact ⟨by omega, by omega⟩), if_neg (by omega), r_endPart_198, r199]
          · rw [el4, e2r 94 (by decide) (by decide), c7'.1]; decide
          · rw [hr, hat, hop, f416, f42, lenI']
            have k1' : KDs N (sf (sf τ4 46 0 r) 41 0 d) (r + 1) h17 P L.length (l ++ [x]) := rk3.1.cg ⟨by omega, Int.le_refl _, Int.le_refl _, by omega⟩ (fun y _ a i _ _ _ _ _ _ => el4 r a i)
            have k2' : CHn (sf (sf τ4 46 0 r) 41 0 d) (r + 1) h17 ((l ++ [x]).map qC) (el (sf (sf τ4 46 0 r) 41 0 d) 87 r) := by
              rw [el4]
              exact rk3.2.1.cg (fun a i _ _ _ _ => el4 r a i)
            refine tx_row (K := 5) (place := at0) (a := (l.length : Int) + 1) (l := l ++ [x]) hN X8.1.2.2.2 ⟨by omega, Int.le_refl _, by omega, by omega⟩ (by rw [el4, e2r 94 (by decide) (by decide), c7'.1]; unfold RKd; omega) (by rw [el4, e2r 93 (by decide) (by decide)]; exact c7'.2.1) (by rw [el4, hτ2, el_ses]) k1' k2' (kb _ _ (by omega) (by omega)) ?_ (fun y hy => by rw [o8 y hy]; decide) (by rw [List.length_append]; simp; omega) (by omega) ⟨by rw [lenX]; omega, by omega⟩ (by omega)
            unfold IV wgt
            refine Or.inr (Or.inr (Or.inr (Or.inr (Or.inl ⟨rfl, ⟨?_, ?_⟩, o8⟩))))
            · rw [oL]; simp
            · rw [len', List.length_append]; simp; omega
          · rw [f42, hat, List.length_append]; simp; omega
          · rw [f42, hat]
            exact ⟨by omega, by omega⟩
      · -- not closed
        rw [if_neg cc] at tk
        obtain ⟨σ4, hσ4⟩ : ∃ σ4, σ4 = flS σ2 1 at3 := ⟨_, rfl⟩
        obtain ⟨τ4, hτ4⟩ : ∃ τ4, τ4 = sf (sf τ2 11 0 1) 12 0 at3 := ⟨_, rfl⟩
        rw [← hσ4] at tk
        have z0 := flS_0 (x := 1) (y := at3) t4
        have z2' := flS_222 σ2 1 at3
        have xf : XFc σ2 σ4 := by rw [hσ4]; exact flS_xf (XFc.rf σ2) _ _
        have xr : XFr τ2 τ4 := by rw [hτ4]; exact ⟨fun f i _ _ a b => by rw [fl_sfn _ _ _ _ b, fl_sfn _ _ _ _ a], fun _ _ => rfl⟩
        have t11 : fl τ4 11 0 = 1 := by rw [hτ4, fl_sfn _ _ _ _ (by decide), fl_sfs]
        have t12 : fl τ4 12 0 = at3 := by rw [hτ4, fl_sfs]
        have rd24 : RDr r d τ1 τ4 := rdA.xf xr
        have xb4 : XB σ4 τ4 st cl := (t2.xf xf (XFr.rf τ1) (by rw [hσ4, z2'.1, s222]; omega) (by rw [hσ4, z2'.1, s222]; omega)).mv rd24 ⟨rfl, rfl, fun _ => rfl⟩ (by rw [hσ4, z2'.1, s222]; omega)
        have xc := ((xs2.xc.un).xf xf rd24 xb4).op (fl σ4 184 1 - 1)
        have f5 : ∀ (f : Nat) (i : Int), ¬ (f = 184 ∧ i = 1) → fl (sf σ4 184 1 (fl σ4 184 1 - 1)) f i = fl σ4 f i := fun f i hx => by rw [fl_sf, if_neg hx]
        have e182 : fl σ4 182 1 = 1 := by rw [hσ4]; exact z0.1
        have lnb := v4.1.2.2.2.2.2.2.1
        rw [List.length_append, len] at lnb
        simp at lnb
        refine ⟨π2, sf σ4 184 1 (fl σ4 184 1 - 1), τ4, 0, k1 + 1, ?_, p2.tr (rF τ4 ?_), ⟨(ft2.xf xf (by omega)).st (fun f i a b => f5 f i (by omega)) (fun _ _ => rfl) (by omega), by rw [hr]; exact rd1.tr rd24 (Int.le_refl _) (Int.le_refl _), Or.inl ⟨⟨by rw [f5 182 1 (by omega), e182, t11], by rw [f5 183 1 (by omega), hσ4, z0.2, t12], by rw [t11]; decide⟩, ⟨L ++ sgs l ++ seg, xc, by rw [hat, List.length_append, List.length_append]; omega⟩, ?_⟩⟩, fun e => by rw [t11] at e; omega, by rw [hp]; omega⟩
        · rw [cls3, Tx_bracket_79, tk.1, Option.bind_some, e182, grd_t (by decide), if_neg (by decide)]
        · rw [rc, r_endPart_97, grd_t i1, grd_t (by decide), if_neg cc, f2, hat3, r_fail0 (by rw [f2]; exact z4'), Option.bind_some, hτ4]
        · have c := cp2 (sf σ4 184 1 (fl σ4 184 1 - 1)) (by rw [f5 1 _ (by omega), xf.1 1 _ (by omega) (by omega)])
          rw [hat, hop]
          exact ⟨by omega, by rw [c]; omega⟩
end BK
